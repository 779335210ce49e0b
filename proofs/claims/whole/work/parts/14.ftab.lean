theorem tf_dall : ∀ y : Nat, y < 150 → (tf_cl y).all (tf_ck (tf_by y)) = true := by
  intro y hy
  by_cases h0_150 : y < 75
  · skip
    by_cases h0_75 : y < 37
    · skip
      by_cases h0_37 : y < 18
      · skip
        by_cases h0_18 : y < 9
        · skip
          by_cases h0_9 : y < 4
          · skip
            by_cases h0_4 : y < 2
            · skip
              by_cases h0_2 : y < 1
              · skip
                have e : y = 0 := by omega
                subst e
                exact tf_d0
              · skip
                have e : y = 1 := by omega
                subst e
                exact tf_d1
            · skip
              by_cases h2_4 : y < 3
              · skip
                have e : y = 2 := by omega
                subst e
                exact tf_d2
              · skip
                have e : y = 3 := by omega
                subst e
                exact tf_d3
          · skip
            by_cases h4_9 : y < 6
            · skip
              by_cases h4_6 : y < 5
              · skip
                have e : y = 4 := by omega
                subst e
                exact tf_d4
              · skip
                have e : y = 5 := by omega
                subst e
                exact tf_d5
            · skip
              by_cases h6_9 : y < 7
              · skip
                have e : y = 6 := by omega
                subst e
                exact tf_d6
              · skip
                by_cases h7_9 : y < 8
                · skip
                  have e : y = 7 := by omega
                  subst e
                  exact tf_d7
                · skip
                  have e : y = 8 := by omega
                  subst e
                  exact tf_d8
        · skip
          by_cases h9_18 : y < 13
          · skip
            by_cases h9_13 : y < 11
            · skip
              by_cases h9_11 : y < 10
              · skip
                have e : y = 9 := by omega
                subst e
                exact tf_d9
              · skip
                have e : y = 10 := by omega
                subst e
                exact tf_d10
            · skip
              by_cases h11_13 : y < 12
              · skip
                have e : y = 11 := by omega
                subst e
                exact tf_d11
              · skip
                have e : y = 12 := by omega
                subst e
                exact tf_d12
          · skip
            by_cases h13_18 : y < 15
            · skip
              by_cases h13_15 : y < 14
              · skip
                have e : y = 13 := by omega
                subst e
                exact tf_d13
              · skip
                have e : y = 14 := by omega
                subst e
                exact tf_d14
            · skip
              by_cases h15_18 : y < 16
              · skip
                have e : y = 15 := by omega
                subst e
                exact tf_d15
              · skip
                by_cases h16_18 : y < 17
                · skip
                  have e : y = 16 := by omega
                  subst e
                  exact tf_d16
                · skip
                  have e : y = 17 := by omega
                  subst e
                  exact tf_d17
      · skip
        by_cases h18_37 : y < 27
        · skip
          by_cases h18_27 : y < 22
          · skip
            by_cases h18_22 : y < 20
            · skip
              by_cases h18_20 : y < 19
              · skip
                have e : y = 18 := by omega
                subst e
                exact tf_d18
              · skip
                have e : y = 19 := by omega
                subst e
                exact tf_d19
            · skip
              by_cases h20_22 : y < 21
              · skip
                have e : y = 20 := by omega
                subst e
                exact tf_d20
              · skip
                have e : y = 21 := by omega
                subst e
                exact tf_d21
          · skip
            by_cases h22_27 : y < 24
            · skip
              by_cases h22_24 : y < 23
              · skip
                have e : y = 22 := by omega
                subst e
                exact tf_d22
              · skip
                have e : y = 23 := by omega
                subst e
                exact tf_d23
            · skip
              by_cases h24_27 : y < 25
              · skip
                have e : y = 24 := by omega
                subst e
                exact tf_d24
              · skip
                by_cases h25_27 : y < 26
                · skip
                  have e : y = 25 := by omega
                  subst e
                  exact tf_d25
                · skip
                  have e : y = 26 := by omega
                  subst e
                  exact tf_d26
        · skip
          by_cases h27_37 : y < 32
          · skip
            by_cases h27_32 : y < 29
            · skip
              by_cases h27_29 : y < 28
              · skip
                have e : y = 27 := by omega
                subst e
                exact tf_d27
              · skip
                have e : y = 28 := by omega
                subst e
                exact tf_d28
            · skip
              by_cases h29_32 : y < 30
              · skip
                have e : y = 29 := by omega
                subst e
                exact tf_d29
              · skip
                by_cases h30_32 : y < 31
                · skip
                  have e : y = 30 := by omega
                  subst e
                  exact tf_d30
                · skip
                  have e : y = 31 := by omega
                  subst e
                  exact tf_d31
          · skip
            by_cases h32_37 : y < 34
            · skip
              by_cases h32_34 : y < 33
              · skip
                have e : y = 32 := by omega
                subst e
                exact tf_d32
              · skip
                have e : y = 33 := by omega
                subst e
                exact tf_d33
            · skip
              by_cases h34_37 : y < 35
              · skip
                have e : y = 34 := by omega
                subst e
                exact tf_d34
              · skip
                by_cases h35_37 : y < 36
                · skip
                  have e : y = 35 := by omega
                  subst e
                  exact tf_d35
                · skip
                  have e : y = 36 := by omega
                  subst e
                  exact tf_d36
    · skip
      by_cases h37_75 : y < 56
      · skip
        by_cases h37_56 : y < 46
        · skip
          by_cases h37_46 : y < 41
          · skip
            by_cases h37_41 : y < 39
            · skip
              by_cases h37_39 : y < 38
              · skip
                have e : y = 37 := by omega
                subst e
                exact tf_d37
              · skip
                have e : y = 38 := by omega
                subst e
                exact tf_d38
            · skip
              by_cases h39_41 : y < 40
              · skip
                have e : y = 39 := by omega
                subst e
                exact tf_d39
              · skip
                have e : y = 40 := by omega
                subst e
                exact tf_d40
          · skip
            by_cases h41_46 : y < 43
            · skip
              by_cases h41_43 : y < 42
              · skip
                have e : y = 41 := by omega
                subst e
                exact tf_d41
              · skip
                have e : y = 42 := by omega
                subst e
                exact tf_d42
            · skip
              by_cases h43_46 : y < 44
              · skip
                have e : y = 43 := by omega
                subst e
                exact tf_d43
              · skip
                by_cases h44_46 : y < 45
                · skip
                  have e : y = 44 := by omega
                  subst e
                  exact tf_d44
                · skip
                  have e : y = 45 := by omega
                  subst e
                  exact tf_d45
        · skip
          by_cases h46_56 : y < 51
          · skip
            by_cases h46_51 : y < 48
            · skip
              by_cases h46_48 : y < 47
              · skip
                have e : y = 46 := by omega
                subst e
                exact tf_d46
              · skip
                have e : y = 47 := by omega
                subst e
                exact tf_d47
            · skip
              by_cases h48_51 : y < 49
              · skip
                have e : y = 48 := by omega
                subst e
                exact tf_d48
              · skip
                by_cases h49_51 : y < 50
                · skip
                  have e : y = 49 := by omega
                  subst e
                  exact tf_d49
                · skip
                  have e : y = 50 := by omega
                  subst e
                  exact tf_d50
          · skip
            by_cases h51_56 : y < 53
            · skip
              by_cases h51_53 : y < 52
              · skip
                have e : y = 51 := by omega
                subst e
                exact tf_d51
              · skip
                have e : y = 52 := by omega
                subst e
                exact tf_d52
            · skip
              by_cases h53_56 : y < 54
              · skip
                have e : y = 53 := by omega
                subst e
                exact tf_d53
              · skip
                by_cases h54_56 : y < 55
                · skip
                  have e : y = 54 := by omega
                  subst e
                  exact tf_d54
                · skip
                  have e : y = 55 := by omega
                  subst e
                  exact tf_d55
      · skip
        by_cases h56_75 : y < 65
        · skip
          by_cases h56_65 : y < 60
          · skip
            by_cases h56_60 : y < 58
            · skip
              by_cases h56_58 : y < 57
              · skip
                have e : y = 56 := by omega
                subst e
                exact tf_d56
              · skip
                have e : y = 57 := by omega
                subst e
                exact tf_d57
            · skip
              by_cases h58_60 : y < 59
              · skip
                have e : y = 58 := by omega
                subst e
                exact tf_d58
              · skip
                have e : y = 59 := by omega
                subst e
                exact tf_d59
          · skip
            by_cases h60_65 : y < 62
            · skip
              by_cases h60_62 : y < 61
              · skip
                have e : y = 60 := by omega
                subst e
                exact tf_d60
              · skip
                have e : y = 61 := by omega
                subst e
                exact tf_d61
            · skip
              by_cases h62_65 : y < 63
              · skip
                have e : y = 62 := by omega
                subst e
                exact tf_d62
              · skip
                by_cases h63_65 : y < 64
                · skip
                  have e : y = 63 := by omega
                  subst e
                  exact tf_d63
                · skip
                  have e : y = 64 := by omega
                  subst e
                  exact tf_d64
        · skip
          by_cases h65_75 : y < 70
          · skip
            by_cases h65_70 : y < 67
            · skip
              by_cases h65_67 : y < 66
              · skip
                have e : y = 65 := by omega
                subst e
                exact tf_d65
              · skip
                have e : y = 66 := by omega
                subst e
                exact tf_d66
            · skip
              by_cases h67_70 : y < 68
              · skip
                have e : y = 67 := by omega
                subst e
                exact tf_d67
              · skip
                by_cases h68_70 : y < 69
                · skip
                  have e : y = 68 := by omega
                  subst e
                  exact tf_d68
                · skip
                  have e : y = 69 := by omega
                  subst e
                  exact tf_d69
          · skip
            by_cases h70_75 : y < 72
            · skip
              by_cases h70_72 : y < 71
              · skip
                have e : y = 70 := by omega
                subst e
                exact tf_d70
              · skip
                have e : y = 71 := by omega
                subst e
                exact tf_d71
            · skip
              by_cases h72_75 : y < 73
              · skip
                have e : y = 72 := by omega
                subst e
                exact tf_d72
              · skip
                by_cases h73_75 : y < 74
                · skip
                  have e : y = 73 := by omega
                  subst e
                  exact tf_d73
                · skip
                  have e : y = 74 := by omega
                  subst e
                  exact tf_d74
  · skip
    by_cases h75_150 : y < 112
    · skip
      by_cases h75_112 : y < 93
      · skip
        by_cases h75_93 : y < 84
        · skip
          by_cases h75_84 : y < 79
          · skip
            by_cases h75_79 : y < 77
            · skip
              by_cases h75_77 : y < 76
              · skip
                have e : y = 75 := by omega
                subst e
                exact tf_d75
              · skip
                have e : y = 76 := by omega
                subst e
                exact tf_d76
            · skip
              by_cases h77_79 : y < 78
              · skip
                have e : y = 77 := by omega
                subst e
                exact tf_d77
              · skip
                have e : y = 78 := by omega
                subst e
                exact tf_d78
          · skip
            by_cases h79_84 : y < 81
            · skip
              by_cases h79_81 : y < 80
              · skip
                have e : y = 79 := by omega
                subst e
                exact tf_d79
              · skip
                have e : y = 80 := by omega
                subst e
                exact tf_d80
            · skip
              by_cases h81_84 : y < 82
              · skip
                have e : y = 81 := by omega
                subst e
                exact tf_d81
              · skip
                by_cases h82_84 : y < 83
                · skip
                  have e : y = 82 := by omega
                  subst e
                  exact tf_d82
                · skip
                  have e : y = 83 := by omega
                  subst e
                  exact tf_d83
        · skip
          by_cases h84_93 : y < 88
          · skip
            by_cases h84_88 : y < 86
            · skip
              by_cases h84_86 : y < 85
              · skip
                have e : y = 84 := by omega
                subst e
                exact tf_d84
              · skip
                have e : y = 85 := by omega
                subst e
                exact tf_d85
            · skip
              by_cases h86_88 : y < 87
              · skip
                have e : y = 86 := by omega
                subst e
                exact tf_d86
              · skip
                have e : y = 87 := by omega
                subst e
                exact tf_d87
          · skip
            by_cases h88_93 : y < 90
            · skip
              by_cases h88_90 : y < 89
              · skip
                have e : y = 88 := by omega
                subst e
                exact tf_d88
              · skip
                have e : y = 89 := by omega
                subst e
                exact tf_d89
            · skip
              by_cases h90_93 : y < 91
              · skip
                have e : y = 90 := by omega
                subst e
                exact tf_d90
              · skip
                by_cases h91_93 : y < 92
                · skip
                  have e : y = 91 := by omega
                  subst e
                  exact tf_d91
                · skip
                  have e : y = 92 := by omega
                  subst e
                  exact tf_d92
      · skip
        by_cases h93_112 : y < 102
        · skip
          by_cases h93_102 : y < 97
          · skip
            by_cases h93_97 : y < 95
            · skip
              by_cases h93_95 : y < 94
              · skip
                have e : y = 93 := by omega
                subst e
                exact tf_d93
              · skip
                have e : y = 94 := by omega
                subst e
                exact tf_d94
            · skip
              by_cases h95_97 : y < 96
              · skip
                have e : y = 95 := by omega
                subst e
                exact tf_d95
              · skip
                have e : y = 96 := by omega
                subst e
                exact tf_d96
          · skip
            by_cases h97_102 : y < 99
            · skip
              by_cases h97_99 : y < 98
              · skip
                have e : y = 97 := by omega
                subst e
                exact tf_d97
              · skip
                have e : y = 98 := by omega
                subst e
                exact tf_d98
            · skip
              by_cases h99_102 : y < 100
              · skip
                have e : y = 99 := by omega
                subst e
                exact tf_d99
              · skip
                by_cases h100_102 : y < 101
                · skip
                  have e : y = 100 := by omega
                  subst e
                  exact tf_d100
                · skip
                  have e : y = 101 := by omega
                  subst e
                  exact tf_d101
        · skip
          by_cases h102_112 : y < 107
          · skip
            by_cases h102_107 : y < 104
            · skip
              by_cases h102_104 : y < 103
              · skip
                have e : y = 102 := by omega
                subst e
                exact tf_d102
              · skip
                have e : y = 103 := by omega
                subst e
                exact tf_d103
            · skip
              by_cases h104_107 : y < 105
              · skip
                have e : y = 104 := by omega
                subst e
                exact tf_d104
              · skip
                by_cases h105_107 : y < 106
                · skip
                  have e : y = 105 := by omega
                  subst e
                  exact tf_d105
                · skip
                  have e : y = 106 := by omega
                  subst e
                  exact tf_d106
          · skip
            by_cases h107_112 : y < 109
            · skip
              by_cases h107_109 : y < 108
              · skip
                have e : y = 107 := by omega
                subst e
                exact tf_d107
              · skip
                have e : y = 108 := by omega
                subst e
                exact tf_d108
            · skip
              by_cases h109_112 : y < 110
              · skip
                have e : y = 109 := by omega
                subst e
                exact tf_d109
              · skip
                by_cases h110_112 : y < 111
                · skip
                  have e : y = 110 := by omega
                  subst e
                  exact tf_d110
                · skip
                  have e : y = 111 := by omega
                  subst e
                  exact tf_d111
    · skip
      by_cases h112_150 : y < 131
      · skip
        by_cases h112_131 : y < 121
        · skip
          by_cases h112_121 : y < 116
          · skip
            by_cases h112_116 : y < 114
            · skip
              by_cases h112_114 : y < 113
              · skip
                have e : y = 112 := by omega
                subst e
                exact tf_d112
              · skip
                have e : y = 113 := by omega
                subst e
                exact tf_d113
            · skip
              by_cases h114_116 : y < 115
              · skip
                have e : y = 114 := by omega
                subst e
                exact tf_d114
              · skip
                have e : y = 115 := by omega
                subst e
                exact tf_d115
          · skip
            by_cases h116_121 : y < 118
            · skip
              by_cases h116_118 : y < 117
              · skip
                have e : y = 116 := by omega
                subst e
                exact tf_d116
              · skip
                have e : y = 117 := by omega
                subst e
                exact tf_d117
            · skip
              by_cases h118_121 : y < 119
              · skip
                have e : y = 118 := by omega
                subst e
                exact tf_d118
              · skip
                by_cases h119_121 : y < 120
                · skip
                  have e : y = 119 := by omega
                  subst e
                  exact tf_d119
                · skip
                  have e : y = 120 := by omega
                  subst e
                  exact tf_d120
        · skip
          by_cases h121_131 : y < 126
          · skip
            by_cases h121_126 : y < 123
            · skip
              by_cases h121_123 : y < 122
              · skip
                have e : y = 121 := by omega
                subst e
                exact tf_d121
              · skip
                have e : y = 122 := by omega
                subst e
                exact tf_d122
            · skip
              by_cases h123_126 : y < 124
              · skip
                have e : y = 123 := by omega
                subst e
                exact tf_d123
              · skip
                by_cases h124_126 : y < 125
                · skip
                  have e : y = 124 := by omega
                  subst e
                  exact tf_d124
                · skip
                  have e : y = 125 := by omega
                  subst e
                  exact tf_d125
          · skip
            by_cases h126_131 : y < 128
            · skip
              by_cases h126_128 : y < 127
              · skip
                have e : y = 126 := by omega
                subst e
                exact tf_d126
              · skip
                have e : y = 127 := by omega
                subst e
                exact tf_d127
            · skip
              by_cases h128_131 : y < 129
              · skip
                have e : y = 128 := by omega
                subst e
                exact tf_d128
              · skip
                by_cases h129_131 : y < 130
                · skip
                  have e : y = 129 := by omega
                  subst e
                  exact tf_d129
                · skip
                  have e : y = 130 := by omega
                  subst e
                  exact tf_d130
      · skip
        by_cases h131_150 : y < 140
        · skip
          by_cases h131_140 : y < 135
          · skip
            by_cases h131_135 : y < 133
            · skip
              by_cases h131_133 : y < 132
              · skip
                have e : y = 131 := by omega
                subst e
                exact tf_d131
              · skip
                have e : y = 132 := by omega
                subst e
                exact tf_d132
            · skip
              by_cases h133_135 : y < 134
              · skip
                have e : y = 133 := by omega
                subst e
                exact tf_d133
              · skip
                have e : y = 134 := by omega
                subst e
                exact tf_d134
          · skip
            by_cases h135_140 : y < 137
            · skip
              by_cases h135_137 : y < 136
              · skip
                have e : y = 135 := by omega
                subst e
                exact tf_d135
              · skip
                have e : y = 136 := by omega
                subst e
                exact tf_d136
            · skip
              by_cases h137_140 : y < 138
              · skip
                have e : y = 137 := by omega
                subst e
                exact tf_d137
              · skip
                by_cases h138_140 : y < 139
                · skip
                  have e : y = 138 := by omega
                  subst e
                  exact tf_d138
                · skip
                  have e : y = 139 := by omega
                  subst e
                  exact tf_d139
        · skip
          by_cases h140_150 : y < 145
          · skip
            by_cases h140_145 : y < 142
            · skip
              by_cases h140_142 : y < 141
              · skip
                have e : y = 140 := by omega
                subst e
                exact tf_d140
              · skip
                have e : y = 141 := by omega
                subst e
                exact tf_d141
            · skip
              by_cases h142_145 : y < 143
              · skip
                have e : y = 142 := by omega
                subst e
                exact tf_d142
              · skip
                by_cases h143_145 : y < 144
                · skip
                  have e : y = 143 := by omega
                  subst e
                  exact tf_d143
                · skip
                  have e : y = 144 := by omega
                  subst e
                  exact tf_d144
          · skip
            by_cases h145_150 : y < 147
            · skip
              by_cases h145_147 : y < 146
              · skip
                have e : y = 145 := by omega
                subst e
                exact tf_d145
              · skip
                have e : y = 146 := by omega
                subst e
                exact tf_d146
            · skip
              by_cases h147_150 : y < 148
              · skip
                have e : y = 147 := by omega
                subst e
                exact tf_d147
              · skip
                by_cases h148_150 : y < 149
                · skip
                  have e : y = 148 := by omega
                  subst e
                  exact tf_d148
                · skip
                  have e : y = 149 := by omega
                  subst e
                  exact tf_d149
theorem tf_tab_ok {y pc : Nat} {i : Instr} (h : tf_tab y pc = some i) : ∃ n, decode (tf_by y) pc = .ok (i, n) ∧ (tf_len i = 0 ∨ n = tf_len i) := by
  by_cases hy : y < 150
  · exact tf_ck_ok (q := (pc, i)) (List.all_eq_true.mp (tf_dall y hy) _ (tf_look_mem h))
  · have : Nat.blt y 150 = false := by
      cases hb : Nat.blt y 150 with
      | false => rfl
      | true => exact absurd (Nat.le_of_ble_eq_true hb) hy
    unfold tf_tab tf_cl at h
    rw [this] at h
    cases h
