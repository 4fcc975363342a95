theorem am_ckg_app (k : Nat) : ∀ (a b : List am_I) (j : Nat), am_ckg k j a = true → am_ckg k (j + a.length) b = true → am_ckg k j (a ++ b) = true := by
  intro a
  induction a with
  | nil => intro b j _ h; exact h
  | cons e a ih =>
    intro b j h1 h2
    simp only [am_ckg, List.cons_append, Bool.and_eq_true] at h1 ⊢
    refine ⟨h1.1, ih b (j + 1) h1.2 ?_⟩
    rw [List.length_cons] at h2
    rwa [show j + 1 + a.length = j + (a.length + 1) by omega]
theorem am_ckg_dn (k a n : Nat) (t : List am_I) (h1 : am_ckg k a ((t.drop a).take n) = true) (h2 : am_ckg k (a + n) (t.drop (a + n)) = true) (hl : a + n ≤ t.length) : am_ckg k a (t.drop a) = true := by
  have e : t.drop a = (t.drop a).take n ++ t.drop (a + n) := by rw [← List.drop_drop, List.take_append_drop]
  rw [e]
  refine am_ckg_app k _ _ a h1 ?_
  rw [show ((t.drop a).take n).length = n by simp; omega]
  exact h2
set_option maxRecDepth 100000 in
theorem am_k171_0 : am_ckg 171 0 ((am_t171.drop 0).take 40) = true := by decide +kernel
set_option maxRecDepth 100000 in
theorem am_k171_1 : am_ckg 171 40 ((am_t171.drop 40).take 40) = true := by decide +kernel
set_option maxRecDepth 100000 in
theorem am_k171_2 : am_ckg 171 80 ((am_t171.drop 80).take 40) = true := by decide +kernel
set_option maxRecDepth 100000 in
theorem am_k171_3 : am_ckg 171 120 ((am_t171.drop 120).take 40) = true := by decide +kernel
set_option maxRecDepth 100000 in
theorem am_k171_4 : am_ckg 171 160 ((am_t171.drop 160).take 40) = true := by decide +kernel
set_option maxRecDepth 100000 in
theorem am_k171_5 : am_ckg 171 200 ((am_t171.drop 200).take 40) = true := by decide +kernel
set_option maxRecDepth 100000 in
theorem am_k171_6 : am_ckg 171 240 ((am_t171.drop 240).take 40) = true := by decide +kernel
set_option maxRecDepth 100000 in
theorem am_k171_7 : am_ckg 171 280 ((am_t171.drop 280).take 40) = true := by decide +kernel
set_option maxRecDepth 100000 in
theorem am_k171_8 : am_ckg 171 320 ((am_t171.drop 320).take 40) = true := by decide +kernel
set_option maxRecDepth 100000 in
theorem am_k171_9 : am_ckg 171 360 ((am_t171.drop 360).take 40) = true := by decide +kernel
set_option maxRecDepth 100000 in
theorem am_k171_10 : am_ckg 171 400 ((am_t171.drop 400).take 40) = true := by decide +kernel
set_option maxRecDepth 100000 in
theorem am_k171_11 : am_ckg 171 440 ((am_t171.drop 440).take 40) = true := by decide +kernel
set_option maxRecDepth 100000 in
theorem am_k171_12 : am_ckg 171 480 ((am_t171.drop 480).take 40) = true := by decide +kernel
set_option maxRecDepth 100000 in
theorem am_k171_13 : am_ckg 171 520 ((am_t171.drop 520).take 40) = true := by decide +kernel
set_option maxRecDepth 100000 in
theorem am_k171_14 : am_ckg 171 560 ((am_t171.drop 560).take 40) = true := by decide +kernel
set_option maxRecDepth 100000 in
theorem am_k171_15 : am_ckg 171 600 ((am_t171.drop 600).take 40) = true := by decide +kernel
set_option maxRecDepth 100000 in
theorem am_k171_16 : am_ckg 171 640 ((am_t171.drop 640).take 40) = true := by decide +kernel
set_option maxRecDepth 100000 in
theorem am_kl171 : am_t171.length = 678 := by decide +kernel
theorem am_kd_16 : am_ckg 171 640 (am_t171.drop 640) = true := by
  have h := am_k171_16
  rwa [List.take_of_length_le (by rw [List.length_drop, am_kl171]; omega)] at h
theorem am_kd_15 : am_ckg 171 600 (am_t171.drop 600) = true := am_ckg_dn 171 600 40 am_t171 am_k171_15 am_kd_16 (by rw [am_kl171]; omega)
theorem am_kd_14 : am_ckg 171 560 (am_t171.drop 560) = true := am_ckg_dn 171 560 40 am_t171 am_k171_14 am_kd_15 (by rw [am_kl171]; omega)
theorem am_kd_13 : am_ckg 171 520 (am_t171.drop 520) = true := am_ckg_dn 171 520 40 am_t171 am_k171_13 am_kd_14 (by rw [am_kl171]; omega)
theorem am_kd_12 : am_ckg 171 480 (am_t171.drop 480) = true := am_ckg_dn 171 480 40 am_t171 am_k171_12 am_kd_13 (by rw [am_kl171]; omega)
theorem am_kd_11 : am_ckg 171 440 (am_t171.drop 440) = true := am_ckg_dn 171 440 40 am_t171 am_k171_11 am_kd_12 (by rw [am_kl171]; omega)
theorem am_kd_10 : am_ckg 171 400 (am_t171.drop 400) = true := am_ckg_dn 171 400 40 am_t171 am_k171_10 am_kd_11 (by rw [am_kl171]; omega)
theorem am_kd_9 : am_ckg 171 360 (am_t171.drop 360) = true := am_ckg_dn 171 360 40 am_t171 am_k171_9 am_kd_10 (by rw [am_kl171]; omega)
theorem am_kd_8 : am_ckg 171 320 (am_t171.drop 320) = true := am_ckg_dn 171 320 40 am_t171 am_k171_8 am_kd_9 (by rw [am_kl171]; omega)
theorem am_kd_7 : am_ckg 171 280 (am_t171.drop 280) = true := am_ckg_dn 171 280 40 am_t171 am_k171_7 am_kd_8 (by rw [am_kl171]; omega)
theorem am_kd_6 : am_ckg 171 240 (am_t171.drop 240) = true := am_ckg_dn 171 240 40 am_t171 am_k171_6 am_kd_7 (by rw [am_kl171]; omega)
theorem am_kd_5 : am_ckg 171 200 (am_t171.drop 200) = true := am_ckg_dn 171 200 40 am_t171 am_k171_5 am_kd_6 (by rw [am_kl171]; omega)
theorem am_kd_4 : am_ckg 171 160 (am_t171.drop 160) = true := am_ckg_dn 171 160 40 am_t171 am_k171_4 am_kd_5 (by rw [am_kl171]; omega)
theorem am_kd_3 : am_ckg 171 120 (am_t171.drop 120) = true := am_ckg_dn 171 120 40 am_t171 am_k171_3 am_kd_4 (by rw [am_kl171]; omega)
theorem am_kd_2 : am_ckg 171 80 (am_t171.drop 80) = true := am_ckg_dn 171 80 40 am_t171 am_k171_2 am_kd_3 (by rw [am_kl171]; omega)
theorem am_kd_1 : am_ckg 171 40 (am_t171.drop 40) = true := am_ckg_dn 171 40 40 am_t171 am_k171_1 am_kd_2 (by rw [am_kl171]; omega)
theorem am_kd_0 : am_ckg 171 0 (am_t171.drop 0) = true := am_ckg_dn 171 0 40 am_t171 am_k171_0 am_kd_1 (by rw [am_kl171]; omega)
theorem am_k171 : am_ckg 171 0 (am_tab 171) = true := am_kd_0
theorem am_k_all : ∀ k, k < 172 → am_ckg k 0 (am_tab k) = true := by
  intro k hk
  match k, hk with
  | 0, _ => exact am_k0
  | 1, _ => exact am_k1
  | 2, _ => exact am_k2
  | 3, _ => exact am_k3
  | 4, _ => exact am_k4
  | 5, _ => exact am_k5
  | 6, _ => exact am_k6
  | 7, _ => exact am_k7
  | 8, _ => exact am_k8
  | 9, _ => exact am_k9
  | 10, _ => exact am_k10
  | 11, _ => exact am_k11
  | 12, _ => exact am_k12
  | 13, _ => exact am_k13
  | 14, _ => exact am_k14
  | 15, _ => exact am_k15
  | 16, _ => exact am_k16
  | 17, _ => exact am_k17
  | 18, _ => exact am_k18
  | 19, _ => exact am_k19
  | 20, _ => exact am_k20
  | 21, _ => exact am_k21
  | 22, _ => exact am_k22
  | 23, _ => exact am_k23
  | 24, _ => exact am_k24
  | 25, _ => exact am_k25
  | 26, _ => exact am_k26
  | 27, _ => exact am_k27
  | 28, _ => exact am_k28
  | 29, _ => exact am_k29
  | 30, _ => exact am_k30
  | 31, _ => exact am_k31
  | 32, _ => exact am_k32
  | 33, _ => exact am_k33
  | 34, _ => exact am_k34
  | 35, _ => exact am_k35
  | 36, _ => exact am_k36
  | 37, _ => exact am_k37
  | 38, _ => exact am_k38
  | 39, _ => exact am_k39
  | 40, _ => exact am_k40
  | 41, _ => exact am_k41
  | 42, _ => exact am_k42
  | 43, _ => exact am_k43
  | 44, _ => exact am_k44
  | 45, _ => exact am_k45
  | 46, _ => exact am_k46
  | 47, _ => exact am_k47
  | 48, _ => exact am_k48
  | 49, _ => exact am_k49
  | 50, _ => exact am_k50
  | 51, _ => exact am_k51
  | 52, _ => exact am_k52
  | 53, _ => exact am_k53
  | 54, _ => exact am_k54
  | 55, _ => exact am_k55
  | 56, _ => exact am_k56
  | 57, _ => exact am_k57
  | 58, _ => exact am_k58
  | 59, _ => exact am_k59
  | 60, _ => exact am_k60
  | 61, _ => exact am_k61
  | 62, _ => exact am_k62
  | 63, _ => exact am_k63
  | 64, _ => exact am_k64
  | 65, _ => exact am_k65
  | 66, _ => exact am_k66
  | 67, _ => exact am_k67
  | 68, _ => exact am_k68
  | 69, _ => exact am_k69
  | 70, _ => exact am_k70
  | 71, _ => exact am_k71
  | 72, _ => exact am_k72
  | 73, _ => exact am_k73
  | 74, _ => exact am_k74
  | 75, _ => exact am_k75
  | 76, _ => exact am_k76
  | 77, _ => exact am_k77
  | 78, _ => exact am_k78
  | 79, _ => exact am_k79
  | 80, _ => exact am_k80
  | 81, _ => exact am_k81
  | 82, _ => exact am_k82
  | 83, _ => exact am_k83
  | 84, _ => exact am_k84
  | 85, _ => exact am_k85
  | 86, _ => exact am_k86
  | 87, _ => exact am_k87
  | 88, _ => exact am_k88
  | 89, _ => exact am_k89
  | 90, _ => exact am_k90
  | 91, _ => exact am_k91
  | 92, _ => exact am_k92
  | 93, _ => exact am_k93
  | 94, _ => exact am_k94
  | 95, _ => exact am_k95
  | 96, _ => exact am_k96
  | 97, _ => exact am_k97
  | 98, _ => exact am_k98
  | 99, _ => exact am_k99
  | 100, _ => exact am_k100
  | 101, _ => exact am_k101
  | 102, _ => exact am_k102
  | 103, _ => exact am_k103
  | 104, _ => exact am_k104
  | 105, _ => exact am_k105
  | 106, _ => exact am_k106
  | 107, _ => exact am_k107
  | 108, _ => exact am_k108
  | 109, _ => exact am_k109
  | 110, _ => exact am_k110
  | 111, _ => exact am_k111
  | 112, _ => exact am_k112
  | 113, _ => exact am_k113
  | 114, _ => exact am_k114
  | 115, _ => exact am_k115
  | 116, _ => exact am_k116
  | 117, _ => exact am_k117
  | 118, _ => exact am_k118
  | 119, _ => exact am_k119
  | 120, _ => exact am_k120
  | 121, _ => exact am_k121
  | 122, _ => exact am_k122
  | 123, _ => exact am_k123
  | 124, _ => exact am_k124
  | 125, _ => exact am_k125
  | 126, _ => exact am_k126
  | 127, _ => exact am_k127
  | 128, _ => exact am_k128
  | 129, _ => exact am_k129
  | 130, _ => exact am_k130
  | 131, _ => exact am_k131
  | 132, _ => exact am_k132
  | 133, _ => exact am_k133
  | 134, _ => exact am_k134
  | 135, _ => exact am_k135
  | 136, _ => exact am_k136
  | 137, _ => exact am_k137
  | 138, _ => exact am_k138
  | 139, _ => exact am_k139
  | 140, _ => exact am_k140
  | 141, _ => exact am_k141
  | 142, _ => exact am_k142
  | 143, _ => exact am_k143
  | 144, _ => exact am_k144
  | 145, _ => exact am_k145
  | 146, _ => exact am_k146
  | 147, _ => exact am_k147
  | 148, _ => exact am_k148
  | 149, _ => exact am_k149
  | 150, _ => exact am_k150
  | 151, _ => exact am_k151
  | 152, _ => exact am_k152
  | 153, _ => exact am_k153
  | 154, _ => exact am_k154
  | 155, _ => exact am_k155
  | 156, _ => exact am_k156
  | 157, _ => exact am_k157
  | 158, _ => exact am_k158
  | 159, _ => exact am_k159
  | 160, _ => exact am_k160
  | 161, _ => exact am_k161
  | 162, _ => exact am_k162
  | 163, _ => exact am_k163
  | 164, _ => exact am_k164
  | 165, _ => exact am_k165
  | 166, _ => exact am_k166
  | 167, _ => exact am_k167
  | 168, _ => exact am_k168
  | 169, _ => exact am_k169
  | 170, _ => exact am_k170
  | 171, _ => exact am_k171
  | n + 172, h => omega
theorem am_ok {k j : Nat} {e : am_I} (h : (am_tab k)[j]? = some e) : am_okb k j e = true := by
  by_cases hk : k < 172
  · have := am_ckg_spec k _ 0 (am_k_all k hk) j e h
    rwa [Nat.zero_add] at this
  · have : am_tab k = [] := by
      unfold am_tab
      rw [List.getElem?_eq_none (by show 172 ≤ k; omega)]
      rfl
    rw [this] at h
    simp at h
