/-! ===== the simulation ===== -/
theorem am_rg0 : ∀ j : Nat, ∀ e ∈ am_nth am_tg0 j [], am_chk (0 + j) e = true ∧ am_wok (0 + j) e := by
  intro j
  match j with
  | 0 => exact am_r0
  | 1 => exact am_r1
  | 2 => exact am_r2
  | 3 => exact am_r3
  | 4 => exact am_r4
  | 5 => exact am_r5
  | 6 => exact am_r6
  | 7 => exact am_r7
  | 8 => exact am_r8
  | 9 => exact am_r9
  | 10 => exact am_r10
  | 11 => exact am_r11
  | 12 => exact am_r12
  | 13 => exact am_r13
  | 14 => exact am_r14
  | 15 => exact am_r15
  | j + 16 => exact fun e he => by cases he
theorem am_rg1 : ∀ j : Nat, ∀ e ∈ am_nth am_tg1 j [], am_chk (16 + j) e = true ∧ am_wok (16 + j) e := by
  intro j
  match j with
  | 0 => exact am_r16
  | 1 => exact am_r17
  | 2 => exact am_r18
  | 3 => exact am_r19
  | 4 => exact am_r20
  | 5 => exact am_r21
  | 6 => exact am_r22
  | 7 => exact am_r23
  | 8 => exact am_r24
  | 9 => exact am_r25
  | 10 => exact am_r26
  | 11 => exact am_r27
  | 12 => exact am_r28
  | 13 => exact am_r29
  | 14 => exact am_r30
  | 15 => exact am_r31
  | j + 16 => exact fun e he => by cases he
theorem am_rg2 : ∀ j : Nat, ∀ e ∈ am_nth am_tg2 j [], am_chk (32 + j) e = true ∧ am_wok (32 + j) e := by
  intro j
  match j with
  | 0 => exact am_r32
  | 1 => exact am_r33
  | 2 => exact am_r34
  | 3 => exact am_r35
  | 4 => exact am_r36
  | 5 => exact am_r37
  | 6 => exact am_r38
  | 7 => exact am_r39
  | 8 => exact am_r40
  | 9 => exact am_r41
  | 10 => exact am_r42
  | 11 => exact am_r43
  | 12 => exact am_r44
  | 13 => exact am_r45
  | 14 => exact am_r46
  | 15 => exact am_r47
  | j + 16 => exact fun e he => by cases he
theorem am_rg3 : ∀ j : Nat, ∀ e ∈ am_nth am_tg3 j [], am_chk (48 + j) e = true ∧ am_wok (48 + j) e := by
  intro j
  match j with
  | 0 => exact am_r48
  | 1 => exact am_r49
  | 2 => exact am_r50
  | 3 => exact am_r51
  | 4 => exact am_r52
  | 5 => exact am_r53
  | 6 => exact am_r54
  | 7 => exact am_r55
  | 8 => exact am_r56
  | 9 => exact am_r57
  | 10 => exact am_r58
  | 11 => exact am_r59
  | 12 => exact am_r60
  | 13 => exact am_r61
  | 14 => exact am_r62
  | 15 => exact am_r63
  | j + 16 => exact fun e he => by cases he
theorem am_rg4 : ∀ j : Nat, ∀ e ∈ am_nth am_tg4 j [], am_chk (64 + j) e = true ∧ am_wok (64 + j) e := by
  intro j
  match j with
  | 0 => exact am_r64
  | 1 => exact am_r65
  | 2 => exact am_r66
  | 3 => exact am_r67
  | 4 => exact am_r68
  | 5 => exact am_r69
  | 6 => exact am_r70
  | 7 => exact am_r71
  | 8 => exact am_r72
  | 9 => exact am_r73
  | 10 => exact am_r74
  | 11 => exact am_r75
  | 12 => exact am_r76
  | 13 => exact am_r77
  | 14 => exact am_r78
  | 15 => exact am_r79
  | j + 16 => exact fun e he => by cases he
theorem am_rg5 : ∀ j : Nat, ∀ e ∈ am_nth am_tg5 j [], am_chk (80 + j) e = true ∧ am_wok (80 + j) e := by
  intro j
  match j with
  | 0 => exact am_r80
  | 1 => exact am_r81
  | 2 => exact am_r82
  | 3 => exact am_r83
  | 4 => exact am_r84
  | 5 => exact am_r85
  | 6 => exact am_r86
  | 7 => exact am_r87
  | 8 => exact am_r88
  | 9 => exact am_r89
  | 10 => exact am_r90
  | 11 => exact am_r91
  | 12 => exact am_r92
  | 13 => exact am_r93
  | 14 => exact am_r94
  | 15 => exact am_r95
  | j + 16 => exact fun e he => by cases he
theorem am_rg6 : ∀ j : Nat, ∀ e ∈ am_nth am_tg6 j [], am_chk (96 + j) e = true ∧ am_wok (96 + j) e := by
  intro j
  match j with
  | 0 => exact am_r96
  | 1 => exact am_r97
  | 2 => exact am_r98
  | 3 => exact am_r99
  | 4 => exact am_r100
  | 5 => exact am_r101
  | 6 => exact am_r102
  | 7 => exact am_r103
  | 8 => exact am_r104
  | 9 => exact am_r105
  | 10 => exact am_r106
  | 11 => exact am_r107
  | 12 => exact am_r108
  | 13 => exact am_r109
  | 14 => exact am_r110
  | 15 => exact am_r111
  | j + 16 => exact fun e he => by cases he
theorem am_rg7 : ∀ j : Nat, ∀ e ∈ am_nth am_tg7 j [], am_chk (112 + j) e = true ∧ am_wok (112 + j) e := by
  intro j
  match j with
  | 0 => exact am_r112
  | 1 => exact am_r113
  | 2 => exact am_r114
  | 3 => exact am_r115
  | 4 => exact am_r116
  | 5 => exact am_r117
  | 6 => exact am_r118
  | 7 => exact am_r119
  | 8 => exact am_r120
  | 9 => exact am_r121
  | 10 => exact am_r122
  | 11 => exact am_r123
  | 12 => exact am_r124
  | 13 => exact am_r125
  | 14 => exact am_r126
  | 15 => exact am_r127
  | j + 16 => exact fun e he => by cases he
theorem am_rg8 : ∀ j : Nat, ∀ e ∈ am_nth am_tg8 j [], am_chk (128 + j) e = true ∧ am_wok (128 + j) e := by
  intro j
  match j with
  | 0 => exact am_r128
  | 1 => exact am_r129
  | 2 => exact am_r130
  | 3 => exact am_r131
  | 4 => exact am_r132
  | 5 => exact am_r133
  | 6 => exact am_r134
  | 7 => exact am_r135
  | 8 => exact am_r136
  | 9 => exact am_r137
  | 10 => exact am_r138
  | 11 => exact am_r139
  | 12 => exact am_r140
  | 13 => exact am_r141
  | 14 => exact am_r142
  | 15 => exact am_r143
  | j + 16 => exact fun e he => by cases he
theorem am_rg9 : ∀ j : Nat, ∀ e ∈ am_nth am_tg9 j [], am_chk (144 + j) e = true ∧ am_wok (144 + j) e := by
  intro j
  match j with
  | 0 => exact am_r144
  | 1 => exact am_r145
  | 2 => exact am_r146
  | 3 => exact am_r147
  | 4 => exact am_r148
  | 5 => exact am_r149
  | 6 => exact am_r150
  | 7 => exact am_r151
  | 8 => exact am_r152
  | 9 => exact am_r153
  | 10 => exact am_r154
  | 11 => exact am_r155
  | 12 => exact am_r156
  | 13 => exact am_r157
  | 14 => exact am_r158
  | 15 => exact am_r159
  | j + 16 => exact fun e he => by cases he
theorem am_rg10 : ∀ j : Nat, ∀ e ∈ am_nth am_tg10 j [], am_chk (160 + j) e = true ∧ am_wok (160 + j) e := by
  intro j
  match j with
  | 0 => exact am_r160
  | 1 => exact am_r161
  | 2 => exact am_r162
  | 3 => exact am_r163
  | 4 => exact am_r164
  | 5 => exact am_r165
  | 6 => exact am_r166
  | 7 => exact am_r167
  | 8 => exact am_r168
  | 9 => exact am_r169
  | 10 => exact am_r170
  | 11 => exact am_r171
  | 12 => exact am_r172
  | 13 => exact am_r173
  | 14 => exact am_r174
  | 15 => exact am_r175
  | j + 16 => exact fun e he => by cases he
theorem am_rg11 : ∀ j : Nat, ∀ e ∈ am_nth am_tg11 j [], am_chk (176 + j) e = true ∧ am_wok (176 + j) e := by
  intro j
  match j with
  | 0 => exact am_r176
  | 1 => exact am_r177
  | 2 => exact am_r178
  | 3 => exact am_r179
  | j + 4 => exact fun e he => by cases he
theorem am_rows_all : ∀ m : Nat, ∀ e ∈ am_tab m, am_chk m e = true ∧ am_wok m e := by
  intro m
  have hm : 16 * (m / 16) + m % 16 = m := by omega
  unfold am_tab
  generalize m % 16 = j at hm ⊢
  generalize m / 16 = g at hm ⊢
  subst hm
  match g with
  | 0 => exact am_rg0 j
  | 1 => exact am_rg1 j
  | 2 => exact am_rg2 j
  | 3 => exact am_rg3 j
  | 4 => exact am_rg4 j
  | 5 => exact am_rg5 j
  | 6 => exact am_rg6 j
  | 7 => exact am_rg7 j
  | 8 => exact am_rg8 j
  | 9 => exact am_rg9 j
  | 10 => exact am_rg10 j
  | 11 => exact am_rg11 j
  | g + 12 => exact fun e he => by cases j <;> cases he
theorem am_row_mem : ∀ {l : List am_E} {pc : Nat} {e : am_E}, am_row l pc = some e → e ∈ l ∧ e.1 = pc
  | [], _, _, h => by cases h
  | a :: r, pc, e, h => by
    unfold am_row at h
    split at h
    · rename_i hb
      cases h
      exact ⟨List.mem_cons_self, Nat.eq_of_beq_eq_true hb⟩
    · obtain ⟨h1, h2⟩ := am_row_mem h
      exact ⟨List.mem_cons_of_mem _ h1, h2⟩
theorem am_Sim_mono {G : am_En} {l : Launch} {d m : Nat} {c : AC} {K K' : AK} (hK : am_le K K') (w : am_Sim G l d m c K) : am_Sim G l d m c K' := by
  intro p e R s mth args below meth cd Q C htab hend
  refine w p e R s mth args below meth cd Q C htab ⟨fun H locs arr st h r pc c s0 hk => hend.1 H locs arr st h r pc c s0 (hK _ _ _ hk), fun H locs arr st ast h pc k c s0 hk => hend.2 H locs arr st ast h pc k c s0 (fun n hn => hK _ _ _ (hk n hn))⟩
theorem am_sim_clo (G : am_En) (l : Launch) : am_Clo (am_Sim G l) := by
  refine ⟨fun d m c K w => ?_, fun d m c K K' hK w => am_Sim_mono hK w⟩
  intro p e R s mth args below meth cd Q C htab hend
  have w2 : am_stp (am_Sim G l) (am_Gl G m p l e R s mth args below meth cd Q) d (am_hd m) K (am_shp m c) := am_stp_mono (X := am_Sim G l) (Y := am_Sim G l) (G := fun c' => am_Sim G l d m c' K) (fun _ _ _ _ _ hK z => am_Sim_mono hK z) (fun c' z => z p e R s mth args below meth cd Q C htab hend) (fun _ _ _ z => z) w
  clear w
  unfold am_shp at w2
  cases hr : am_row (am_tab m) c.1 with
  | none => rw [hr] at w2; exact w2.elim
  | some e9 =>
    rw [hr] at w2
    obtain ⟨h1, h2⟩ := am_row_mem hr
    obtain ⟨h3, h4⟩ := am_rows_all m e9 h1
    unfold am_chk at h3
    rw [Bool.and_eq_true] at h3
    obtain ⟨pc, ls, st, h, c1, s1⟩ := c
    dsimp only at h2
    subst h2
    exact am_disp C htab hend am_mok_all (of_decide_eq_true h3.1) h3.2 h4 w2
/-- what is so of the abstract machine is so of the real one -/
theorem am_sim {G : am_En} {l : Launch} {d m : Nat} {c : AC} {K : AK} (w : WP d m c K) : am_Sim G l d m c K := w _ (am_sim_clo G l)
