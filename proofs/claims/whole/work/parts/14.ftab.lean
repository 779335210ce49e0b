theorem tf_dall : ∀ y : Nat, y < 153 → (tf_cl y).all (tf_ck (tf_by y)) = true := by
  intro y hy
  by_cases h0_153 : y < 76
  · skip
    by_cases h0_76 : y < 38
    · skip
      by_cases h0_38 : y < 19
      · skip
        by_cases h0_19 : y < 9
        · skip
          by_cases h0_9 : y < 4
          · skip
            by_cases h0_4 : y < 2
            · skip
              by_cases h0_2 : y < 1
              · skip
                have e : y = 0 := by omega
                subst e
                exact tf_d0
              · skip
                have e : y = 1 := by omega
                subst e
                exact tf_d1
            · skip
              by_cases h2_4 : y < 3
              · skip
                have e : y = 2 := by omega
                subst e
                exact tf_d2
              · skip
                have e : y = 3 := by omega
                subst e
                exact tf_d3
          · skip
            by_cases h4_9 : y < 6
            · skip
              by_cases h4_6 : y < 5
              · skip
                have e : y = 4 := by omega
                subst e
                exact tf_d4
              · skip
                have e : y = 5 := by omega
                subst e
                exact tf_d5
            · skip
              by_cases h6_9 : y < 7
              · skip
                have e : y = 6 := by omega
                subst e
                exact tf_d6
              · skip
                by_cases h7_9 : y < 8
                · skip
                  have e : y = 7 := by omega
                  subst e
                  exact tf_d7
                · skip
                  have e : y = 8 := by omega
                  subst e
                  exact tf_d8
        · skip
          by_cases h9_19 : y < 14
          · skip
            by_cases h9_14 : y < 11
            · skip
              by_cases h9_11 : y < 10
              · skip
                have e : y = 9 := by omega
                subst e
                exact tf_d9
              · skip
                have e : y = 10 := by omega
                subst e
                exact tf_d10
            · skip
              by_cases h11_14 : y < 12
              · skip
                have e : y = 11 := by omega
                subst e
                exact tf_d11
              · skip
                by_cases h12_14 : y < 13
                · skip
                  have e : y = 12 := by omega
                  subst e
                  exact tf_d12
                · skip
                  have e : y = 13 := by omega
                  subst e
                  exact tf_d13
          · skip
            by_cases h14_19 : y < 16
            · skip
              by_cases h14_16 : y < 15
              · skip
                have e : y = 14 := by omega
                subst e
                exact tf_d14
              · skip
                have e : y = 15 := by omega
                subst e
                exact tf_d15
            · skip
              by_cases h16_19 : y < 17
              · skip
                have e : y = 16 := by omega
                subst e
                exact tf_d16
              · skip
                by_cases h17_19 : y < 18
                · skip
                  have e : y = 17 := by omega
                  subst e
                  exact tf_d17
                · skip
                  have e : y = 18 := by omega
                  subst e
                  exact tf_d18
      · skip
        by_cases h19_38 : y < 28
        · skip
          by_cases h19_28 : y < 23
          · skip
            by_cases h19_23 : y < 21
            · skip
              by_cases h19_21 : y < 20
              · skip
                have e : y = 19 := by omega
                subst e
                exact tf_d19
              · skip
                have e : y = 20 := by omega
                subst e
                exact tf_d20
            · skip
              by_cases h21_23 : y < 22
              · skip
                have e : y = 21 := by omega
                subst e
                exact tf_d21
              · skip
                have e : y = 22 := by omega
                subst e
                exact tf_d22
          · skip
            by_cases h23_28 : y < 25
            · skip
              by_cases h23_25 : y < 24
              · skip
                have e : y = 23 := by omega
                subst e
                exact tf_d23
              · skip
                have e : y = 24 := by omega
                subst e
                exact tf_d24
            · skip
              by_cases h25_28 : y < 26
              · skip
                have e : y = 25 := by omega
                subst e
                exact tf_d25
              · skip
                by_cases h26_28 : y < 27
                · skip
                  have e : y = 26 := by omega
                  subst e
                  exact tf_d26
                · skip
                  have e : y = 27 := by omega
                  subst e
                  exact tf_d27
        · skip
          by_cases h28_38 : y < 33
          · skip
            by_cases h28_33 : y < 30
            · skip
              by_cases h28_30 : y < 29
              · skip
                have e : y = 28 := by omega
                subst e
                exact tf_d28
              · skip
                have e : y = 29 := by omega
                subst e
                exact tf_d29
            · skip
              by_cases h30_33 : y < 31
              · skip
                have e : y = 30 := by omega
                subst e
                exact tf_d30
              · skip
                by_cases h31_33 : y < 32
                · skip
                  have e : y = 31 := by omega
                  subst e
                  exact tf_d31
                · skip
                  have e : y = 32 := by omega
                  subst e
                  exact tf_d32
          · skip
            by_cases h33_38 : y < 35
            · skip
              by_cases h33_35 : y < 34
              · skip
                have e : y = 33 := by omega
                subst e
                exact tf_d33
              · skip
                have e : y = 34 := by omega
                subst e
                exact tf_d34
            · skip
              by_cases h35_38 : y < 36
              · skip
                have e : y = 35 := by omega
                subst e
                exact tf_d35
              · skip
                by_cases h36_38 : y < 37
                · skip
                  have e : y = 36 := by omega
                  subst e
                  exact tf_d36
                · skip
                  have e : y = 37 := by omega
                  subst e
                  exact tf_d37
    · skip
      by_cases h38_76 : y < 57
      · skip
        by_cases h38_57 : y < 47
        · skip
          by_cases h38_47 : y < 42
          · skip
            by_cases h38_42 : y < 40
            · skip
              by_cases h38_40 : y < 39
              · skip
                have e : y = 38 := by omega
                subst e
                exact tf_d38
              · skip
                have e : y = 39 := by omega
                subst e
                exact tf_d39
            · skip
              by_cases h40_42 : y < 41
              · skip
                have e : y = 40 := by omega
                subst e
                exact tf_d40
              · skip
                have e : y = 41 := by omega
                subst e
                exact tf_d41
          · skip
            by_cases h42_47 : y < 44
            · skip
              by_cases h42_44 : y < 43
              · skip
                have e : y = 42 := by omega
                subst e
                exact tf_d42
              · skip
                have e : y = 43 := by omega
                subst e
                exact tf_d43
            · skip
              by_cases h44_47 : y < 45
              · skip
                have e : y = 44 := by omega
                subst e
                exact tf_d44
              · skip
                by_cases h45_47 : y < 46
                · skip
                  have e : y = 45 := by omega
                  subst e
                  exact tf_d45
                · skip
                  have e : y = 46 := by omega
                  subst e
                  exact tf_d46
        · skip
          by_cases h47_57 : y < 52
          · skip
            by_cases h47_52 : y < 49
            · skip
              by_cases h47_49 : y < 48
              · skip
                have e : y = 47 := by omega
                subst e
                exact tf_d47
              · skip
                have e : y = 48 := by omega
                subst e
                exact tf_d48
            · skip
              by_cases h49_52 : y < 50
              · skip
                have e : y = 49 := by omega
                subst e
                exact tf_d49
              · skip
                by_cases h50_52 : y < 51
                · skip
                  have e : y = 50 := by omega
                  subst e
                  exact tf_d50
                · skip
                  have e : y = 51 := by omega
                  subst e
                  exact tf_d51
          · skip
            by_cases h52_57 : y < 54
            · skip
              by_cases h52_54 : y < 53
              · skip
                have e : y = 52 := by omega
                subst e
                exact tf_d52
              · skip
                have e : y = 53 := by omega
                subst e
                exact tf_d53
            · skip
              by_cases h54_57 : y < 55
              · skip
                have e : y = 54 := by omega
                subst e
                exact tf_d54
              · skip
                by_cases h55_57 : y < 56
                · skip
                  have e : y = 55 := by omega
                  subst e
                  exact tf_d55
                · skip
                  have e : y = 56 := by omega
                  subst e
                  exact tf_d56
      · skip
        by_cases h57_76 : y < 66
        · skip
          by_cases h57_66 : y < 61
          · skip
            by_cases h57_61 : y < 59
            · skip
              by_cases h57_59 : y < 58
              · skip
                have e : y = 57 := by omega
                subst e
                exact tf_d57
              · skip
                have e : y = 58 := by omega
                subst e
                exact tf_d58
            · skip
              by_cases h59_61 : y < 60
              · skip
                have e : y = 59 := by omega
                subst e
                exact tf_d59
              · skip
                have e : y = 60 := by omega
                subst e
                exact tf_d60
          · skip
            by_cases h61_66 : y < 63
            · skip
              by_cases h61_63 : y < 62
              · skip
                have e : y = 61 := by omega
                subst e
                exact tf_d61
              · skip
                have e : y = 62 := by omega
                subst e
                exact tf_d62
            · skip
              by_cases h63_66 : y < 64
              · skip
                have e : y = 63 := by omega
                subst e
                exact tf_d63
              · skip
                by_cases h64_66 : y < 65
                · skip
                  have e : y = 64 := by omega
                  subst e
                  exact tf_d64
                · skip
                  have e : y = 65 := by omega
                  subst e
                  exact tf_d65
        · skip
          by_cases h66_76 : y < 71
          · skip
            by_cases h66_71 : y < 68
            · skip
              by_cases h66_68 : y < 67
              · skip
                have e : y = 66 := by omega
                subst e
                exact tf_d66
              · skip
                have e : y = 67 := by omega
                subst e
                exact tf_d67
            · skip
              by_cases h68_71 : y < 69
              · skip
                have e : y = 68 := by omega
                subst e
                exact tf_d68
              · skip
                by_cases h69_71 : y < 70
                · skip
                  have e : y = 69 := by omega
                  subst e
                  exact tf_d69
                · skip
                  have e : y = 70 := by omega
                  subst e
                  exact tf_d70
          · skip
            by_cases h71_76 : y < 73
            · skip
              by_cases h71_73 : y < 72
              · skip
                have e : y = 71 := by omega
                subst e
                exact tf_d71
              · skip
                have e : y = 72 := by omega
                subst e
                exact tf_d72
            · skip
              by_cases h73_76 : y < 74
              · skip
                have e : y = 73 := by omega
                subst e
                exact tf_d73
              · skip
                by_cases h74_76 : y < 75
                · skip
                  have e : y = 74 := by omega
                  subst e
                  exact tf_d74
                · skip
                  have e : y = 75 := by omega
                  subst e
                  exact tf_d75
  · skip
    by_cases h76_153 : y < 114
    · skip
      by_cases h76_114 : y < 95
      · skip
        by_cases h76_95 : y < 85
        · skip
          by_cases h76_85 : y < 80
          · skip
            by_cases h76_80 : y < 78
            · skip
              by_cases h76_78 : y < 77
              · skip
                have e : y = 76 := by omega
                subst e
                exact tf_d76
              · skip
                have e : y = 77 := by omega
                subst e
                exact tf_d77
            · skip
              by_cases h78_80 : y < 79
              · skip
                have e : y = 78 := by omega
                subst e
                exact tf_d78
              · skip
                have e : y = 79 := by omega
                subst e
                exact tf_d79
          · skip
            by_cases h80_85 : y < 82
            · skip
              by_cases h80_82 : y < 81
              · skip
                have e : y = 80 := by omega
                subst e
                exact tf_d80
              · skip
                have e : y = 81 := by omega
                subst e
                exact tf_d81
            · skip
              by_cases h82_85 : y < 83
              · skip
                have e : y = 82 := by omega
                subst e
                exact tf_d82
              · skip
                by_cases h83_85 : y < 84
                · skip
                  have e : y = 83 := by omega
                  subst e
                  exact tf_d83
                · skip
                  have e : y = 84 := by omega
                  subst e
                  exact tf_d84
        · skip
          by_cases h85_95 : y < 90
          · skip
            by_cases h85_90 : y < 87
            · skip
              by_cases h85_87 : y < 86
              · skip
                have e : y = 85 := by omega
                subst e
                exact tf_d85
              · skip
                have e : y = 86 := by omega
                subst e
                exact tf_d86
            · skip
              by_cases h87_90 : y < 88
              · skip
                have e : y = 87 := by omega
                subst e
                exact tf_d87
              · skip
                by_cases h88_90 : y < 89
                · skip
                  have e : y = 88 := by omega
                  subst e
                  exact tf_d88
                · skip
                  have e : y = 89 := by omega
                  subst e
                  exact tf_d89
          · skip
            by_cases h90_95 : y < 92
            · skip
              by_cases h90_92 : y < 91
              · skip
                have e : y = 90 := by omega
                subst e
                exact tf_d90
              · skip
                have e : y = 91 := by omega
                subst e
                exact tf_d91
            · skip
              by_cases h92_95 : y < 93
              · skip
                have e : y = 92 := by omega
                subst e
                exact tf_d92
              · skip
                by_cases h93_95 : y < 94
                · skip
                  have e : y = 93 := by omega
                  subst e
                  exact tf_d93
                · skip
                  have e : y = 94 := by omega
                  subst e
                  exact tf_d94
      · skip
        by_cases h95_114 : y < 104
        · skip
          by_cases h95_104 : y < 99
          · skip
            by_cases h95_99 : y < 97
            · skip
              by_cases h95_97 : y < 96
              · skip
                have e : y = 95 := by omega
                subst e
                exact tf_d95
              · skip
                have e : y = 96 := by omega
                subst e
                exact tf_d96
            · skip
              by_cases h97_99 : y < 98
              · skip
                have e : y = 97 := by omega
                subst e
                exact tf_d97
              · skip
                have e : y = 98 := by omega
                subst e
                exact tf_d98
          · skip
            by_cases h99_104 : y < 101
            · skip
              by_cases h99_101 : y < 100
              · skip
                have e : y = 99 := by omega
                subst e
                exact tf_d99
              · skip
                have e : y = 100 := by omega
                subst e
                exact tf_d100
            · skip
              by_cases h101_104 : y < 102
              · skip
                have e : y = 101 := by omega
                subst e
                exact tf_d101
              · skip
                by_cases h102_104 : y < 103
                · skip
                  have e : y = 102 := by omega
                  subst e
                  exact tf_d102
                · skip
                  have e : y = 103 := by omega
                  subst e
                  exact tf_d103
        · skip
          by_cases h104_114 : y < 109
          · skip
            by_cases h104_109 : y < 106
            · skip
              by_cases h104_106 : y < 105
              · skip
                have e : y = 104 := by omega
                subst e
                exact tf_d104
              · skip
                have e : y = 105 := by omega
                subst e
                exact tf_d105
            · skip
              by_cases h106_109 : y < 107
              · skip
                have e : y = 106 := by omega
                subst e
                exact tf_d106
              · skip
                by_cases h107_109 : y < 108
                · skip
                  have e : y = 107 := by omega
                  subst e
                  exact tf_d107
                · skip
                  have e : y = 108 := by omega
                  subst e
                  exact tf_d108
          · skip
            by_cases h109_114 : y < 111
            · skip
              by_cases h109_111 : y < 110
              · skip
                have e : y = 109 := by omega
                subst e
                exact tf_d109
              · skip
                have e : y = 110 := by omega
                subst e
                exact tf_d110
            · skip
              by_cases h111_114 : y < 112
              · skip
                have e : y = 111 := by omega
                subst e
                exact tf_d111
              · skip
                by_cases h112_114 : y < 113
                · skip
                  have e : y = 112 := by omega
                  subst e
                  exact tf_d112
                · skip
                  have e : y = 113 := by omega
                  subst e
                  exact tf_d113
    · skip
      by_cases h114_153 : y < 133
      · skip
        by_cases h114_133 : y < 123
        · skip
          by_cases h114_123 : y < 118
          · skip
            by_cases h114_118 : y < 116
            · skip
              by_cases h114_116 : y < 115
              · skip
                have e : y = 114 := by omega
                subst e
                exact tf_d114
              · skip
                have e : y = 115 := by omega
                subst e
                exact tf_d115
            · skip
              by_cases h116_118 : y < 117
              · skip
                have e : y = 116 := by omega
                subst e
                exact tf_d116
              · skip
                have e : y = 117 := by omega
                subst e
                exact tf_d117
          · skip
            by_cases h118_123 : y < 120
            · skip
              by_cases h118_120 : y < 119
              · skip
                have e : y = 118 := by omega
                subst e
                exact tf_d118
              · skip
                have e : y = 119 := by omega
                subst e
                exact tf_d119
            · skip
              by_cases h120_123 : y < 121
              · skip
                have e : y = 120 := by omega
                subst e
                exact tf_d120
              · skip
                by_cases h121_123 : y < 122
                · skip
                  have e : y = 121 := by omega
                  subst e
                  exact tf_d121
                · skip
                  have e : y = 122 := by omega
                  subst e
                  exact tf_d122
        · skip
          by_cases h123_133 : y < 128
          · skip
            by_cases h123_128 : y < 125
            · skip
              by_cases h123_125 : y < 124
              · skip
                have e : y = 123 := by omega
                subst e
                exact tf_d123
              · skip
                have e : y = 124 := by omega
                subst e
                exact tf_d124
            · skip
              by_cases h125_128 : y < 126
              · skip
                have e : y = 125 := by omega
                subst e
                exact tf_d125
              · skip
                by_cases h126_128 : y < 127
                · skip
                  have e : y = 126 := by omega
                  subst e
                  exact tf_d126
                · skip
                  have e : y = 127 := by omega
                  subst e
                  exact tf_d127
          · skip
            by_cases h128_133 : y < 130
            · skip
              by_cases h128_130 : y < 129
              · skip
                have e : y = 128 := by omega
                subst e
                exact tf_d128
              · skip
                have e : y = 129 := by omega
                subst e
                exact tf_d129
            · skip
              by_cases h130_133 : y < 131
              · skip
                have e : y = 130 := by omega
                subst e
                exact tf_d130
              · skip
                by_cases h131_133 : y < 132
                · skip
                  have e : y = 131 := by omega
                  subst e
                  exact tf_d131
                · skip
                  have e : y = 132 := by omega
                  subst e
                  exact tf_d132
      · skip
        by_cases h133_153 : y < 143
        · skip
          by_cases h133_143 : y < 138
          · skip
            by_cases h133_138 : y < 135
            · skip
              by_cases h133_135 : y < 134
              · skip
                have e : y = 133 := by omega
                subst e
                exact tf_d133
              · skip
                have e : y = 134 := by omega
                subst e
                exact tf_d134
            · skip
              by_cases h135_138 : y < 136
              · skip
                have e : y = 135 := by omega
                subst e
                exact tf_d135
              · skip
                by_cases h136_138 : y < 137
                · skip
                  have e : y = 136 := by omega
                  subst e
                  exact tf_d136
                · skip
                  have e : y = 137 := by omega
                  subst e
                  exact tf_d137
          · skip
            by_cases h138_143 : y < 140
            · skip
              by_cases h138_140 : y < 139
              · skip
                have e : y = 138 := by omega
                subst e
                exact tf_d138
              · skip
                have e : y = 139 := by omega
                subst e
                exact tf_d139
            · skip
              by_cases h140_143 : y < 141
              · skip
                have e : y = 140 := by omega
                subst e
                exact tf_d140
              · skip
                by_cases h141_143 : y < 142
                · skip
                  have e : y = 141 := by omega
                  subst e
                  exact tf_d141
                · skip
                  have e : y = 142 := by omega
                  subst e
                  exact tf_d142
        · skip
          by_cases h143_153 : y < 148
          · skip
            by_cases h143_148 : y < 145
            · skip
              by_cases h143_145 : y < 144
              · skip
                have e : y = 143 := by omega
                subst e
                exact tf_d143
              · skip
                have e : y = 144 := by omega
                subst e
                exact tf_d144
            · skip
              by_cases h145_148 : y < 146
              · skip
                have e : y = 145 := by omega
                subst e
                exact tf_d145
              · skip
                by_cases h146_148 : y < 147
                · skip
                  have e : y = 146 := by omega
                  subst e
                  exact tf_d146
                · skip
                  have e : y = 147 := by omega
                  subst e
                  exact tf_d147
          · skip
            by_cases h148_153 : y < 150
            · skip
              by_cases h148_150 : y < 149
              · skip
                have e : y = 148 := by omega
                subst e
                exact tf_d148
              · skip
                have e : y = 149 := by omega
                subst e
                exact tf_d149
            · skip
              by_cases h150_153 : y < 151
              · skip
                have e : y = 150 := by omega
                subst e
                exact tf_d150
              · skip
                by_cases h151_153 : y < 152
                · skip
                  have e : y = 151 := by omega
                  subst e
                  exact tf_d151
                · skip
                  have e : y = 152 := by omega
                  subst e
                  exact tf_d152
theorem tf_tab_ok {y pc : Nat} {i : Instr} (h : tf_tab y pc = some i) : ∃ n, decode (tf_by y) pc = .ok (i, n) ∧ (tf_len i = 0 ∨ n = tf_len i) := by
  by_cases hy : y < 153
  · exact tf_ck_ok (q := (pc, i)) (List.all_eq_true.mp (tf_dall y hy) _ (tf_look_mem h))
  · have : Nat.blt y 153 = false := by
      cases hb : Nat.blt y 153 with
      | false => rfl
      | true => exact absurd (Nat.le_of_ble_eq_true hb) hy
    unfold tf_tab tf_cl at h
    rw [this] at h
    cases h
