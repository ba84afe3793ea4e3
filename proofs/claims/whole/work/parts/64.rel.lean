/-! THE RELATION: what the class's cells (in D) and the reference's cells (in E) have to do with one another between two calls -/
def k_snd (D E : am_D) (s n : Nat) (f : Int → Int32) : Prop := 1 ≤ n ∧ n ≤ 600 ∧ j_row D (30 + 2 * s) n f ∧ E.1 139 s = Int32.ofNat n ∧ k_arr E (134 + s) n f ∧ k_bnd f
def k_Rs (D E : am_D) (ns : Nat) : Prop := ns ≤ 5 ∧ D.1 17 7 = Int32.ofNat ns ∧ E.1 117 12 = Int32.ofNat ns ∧ ∀ s, s < ns → ∃ n f, k_snd D E s n f
def k_Rm (D E : am_D) (nm : Nat) : Prop := nm ≤ 5 ∧ D.1 17 8 = Int32.ofNat nm ∧ E.1 117 13 = Int32.ofNat nm ∧ ∀ i, i < nm → ∃ n f t, k_mv n f t ∧ j_map D (40 + 3 * i) n f t ∧ k_rm E i n f t
/-- pieces, blows told, what harms count -/
def k_Rn (D E : am_D) : Prop := (∃ w o s, k_ps D E 23 w o s) ∧ (∃ a b c : Nat, 1 ≤ a ∧ a ≤ 2047 ∧ 1 ≤ b ∧ b ≤ 20 ∧ 1 ≤ c ∧ c ≤ 40 ∧ D.1 17 11 = Int32.ofNat a ∧ D.1 17 12 = Int32.ofNat b ∧ D.1 17 13 = Int32.ofNat c ∧ E.1 117 17 = Int32.ofNat a ∧ E.1 117 18 = Int32.ofNat b ∧ E.1 117 19 = Int32.ofNat c) ∧ ∀ j, j < 4 → D.1 22 j = E.1 202 j
def k_way (D E : am_D) (i : Nat) : Prop := ∃ w o s, k_pv w o s ∧ D.1 (55 + i) 0 = Int32.ofNat w ∧ D.1 (55 + i) 1 = Int32.ofNat o ∧ D.1 (55 + i) 2 = Int32.ofNat s ∧ E.1 (206 + i) 0 = Int32.ofNat w ∧ E.1 (206 + i) 1 = Int32.ofNat o ∧ E.1 (206 + i) 2 = Int32.ofNat s
def k_Rw (D E : am_D) (nw : Nat) : Prop := nw ≤ 4 ∧ D.1 17 9 = Int32.ofNat nw ∧ E.1 117 20 = Int32.ofNat nw ∧ ∀ i, i < nw → k_way D E i
def k_prt (D E : am_D) (i : Nat) : Prop := ∃ n w a b : Nat, 1 ≤ n ∧ n ≤ 600 ∧ w ≤ 99 ∧ a ≤ b ∧ b ≤ 1200 ∧ D.1 25 i = Int32.ofNat n ∧ D.1 26 i = Int32.ofNat w ∧ D.1 27 i = Int32.ofNat a ∧ D.1 28 i = Int32.ofNat b ∧ E.1 (211 + i) 0 = Int32.ofNat n ∧ E.1 (211 + i) 1 = Int32.ofNat w ∧ E.1 (211 + i) 2 = Int32.ofNat a ∧ E.1 (211 + i) 3 = Int32.ofNat b
def k_Rp (D E : am_D) (np : Nat) : Prop := np ≤ 10 ∧ D.1 24 5 = Int32.ofNat np ∧ E.1 117 21 = Int32.ofNat np ∧ ∀ i, i < np → k_prt D E i
def k_Rh (D E : am_D) (nh : Nat) : Prop := nh ≤ 6 ∧ D.1 17 10 = Int32.ofNat nh ∧ E.1 117 22 = Int32.ofNat nh ∧ ∀ i, i < nh → D.1 21 i = E.1 203 i ∧ 400 ≤ (D.1 21 i).toInt ∧ (D.1 21 i).toInt ≤ 6000
/-- an image: how many there were of all (a: sounds, maps, ways, parts, hums), the numbers -/
def k_im (D E : am_D) (i : Nat) (a : Nat → Nat) : Prop :=
  (D.1 (60 + 3 * i) 2 = Int32.ofNat (a 0) ∧ D.1 (60 + 3 * i) 3 = Int32.ofNat (a 1) ∧ D.1 (60 + 3 * i) 4 = Int32.ofNat (a 2) ∧ D.1 (60 + 3 * i) 5 = Int32.ofNat (a 3) ∧ D.1 (60 + 3 * i) 6 = Int32.ofNat (a 4)) ∧
  (E.1 (2634 + i) 0 = Int32.ofNat (a 0) ∧ E.1 (2634 + i) 1 = Int32.ofNat (a 1) ∧ E.1 (2634 + i) 8 = Int32.ofNat (a 2) ∧ E.1 (2634 + i) 9 = Int32.ofNat (a 3) ∧ E.1 (2634 + i) 10 = Int32.ofNat (a 4)) ∧
  (∃ w o s, k_pv w o s ∧ D.1 (61 + 3 * i) 0 = Int32.ofNat w ∧ D.1 (61 + 3 * i) 1 = Int32.ofNat o ∧ D.1 (61 + 3 * i) 2 = Int32.ofNat s ∧ E.1 (2634 + i) 2 = Int32.ofNat w ∧ E.1 (2634 + i) 3 = Int32.ofNat o ∧ E.1 (2634 + i) 4 = Int32.ofNat s) ∧
  (∃ x y z : Nat, 1 ≤ x ∧ x ≤ 2047 ∧ 1 ≤ y ∧ y ≤ 20 ∧ 1 ≤ z ∧ z ≤ 40 ∧ D.1 (60 + 3 * i) 7 = Int32.ofNat x ∧ D.1 (60 + 3 * i) 8 = Int32.ofNat y ∧ D.1 (60 + 3 * i) 9 = Int32.ofNat z ∧ E.1 (2634 + i) 5 = Int32.ofNat x ∧ E.1 (2634 + i) 6 = Int32.ofNat y ∧ E.1 (2634 + i) 7 = Int32.ofNat z) ∧
  (∀ j, j < 4 → D.1 (62 + 3 * i) j = E.1 (2634 + i) (21 + j)) ∧
  (∀ s, s < a 0 → E.1 (2634 + i) (11 + s) = E.1 139 s ∧ ∀ k, k < 600 → E.1 (2634 + i) (31 + 600 * s + k) = E.1 (134 + s) k) ∧
  (∀ m, m < a 1 → E.1 (2634 + i) (16 + m) = E.1 201 m ∧ ∀ k j, k < 12 → j < 2 → E.1 (2634 + i) (3031 + 2 * (12 * m + k) + j) = E.1 (141 + (12 * m + k)) j) ∧
  (∀ w j, w < a 2 → j < 3 → E.1 (2634 + i) (3151 + 3 * w + j) = E.1 (206 + w) j) ∧
  (∀ p j, p < a 3 → j < 4 → E.1 (2634 + i) (3163 + 4 * p + j) = E.1 (211 + p) j) ∧
  (∀ h, h < a 4 → E.1 (2634 + i) (25 + h) = E.1 203 h)
/-- how many there are of all, as one function -/
def k_cn (ns nm nw np nh : Nat) : Nat → Nat := fun j => if j = 0 then ns else if j = 1 then nm else if j = 2 then nw else if j = 3 then np else nh
def k_Ri (D E : am_D) (ni : Nat) (c : Nat → Nat) : Prop := ni ≤ 3 ∧ D.1 16 2 = Int32.ofNat ni ∧ E.1 117 23 = Int32.ofNat ni ∧ ∃ a : Nat → Nat → Nat, ∀ i, i < ni → k_im D E i (a i) ∧ (∀ j, a i j ≤ c j) ∧ ∀ i2 j, i2 < i → a i2 j ≤ a i j
def k_sm (D E : am_D) (q st L : Nat) : Prop := ∀ k, k < q → (D.1 71 5 = Int32.ofNat st ∧ 1 ≤ st ∧ st ≤ 64 ∧ q * st < L) ∧ E.1 (225 + k) 0 = Int32.ofNat ((k + 1) * st) ∧ E.1 (225 + k) 1 = D.1 79 k ∧ E.1 (225 + k) 2 = D.1 80 k
def k_Rd (D E : am_D) : Prop := ∃ L out q st, L ≤ 1200 ∧ j_row D 74 L out ∧ E.1 117 38 = Int32.ofNat L ∧ k_arr E 222 L out ∧ k_bnd out ∧ D.1 71 6 = Int32.ofNat q ∧ E.1 117 39 = Int32.ofNat q ∧ q ≤ 600 ∧ k_sm D E q st L ∧
  D.1 71 7 = E.1 117 40 ∧ (E.1 117 40 = 0 ∨ E.1 117 40 = 1) ∧ (E.1 117 40 = 1 → (D.1 71 5 = Int32.ofNat st ∧ 1 ≤ st ∧ st ≤ 64 ∧ (q = 0 ∨ q * st < L)) ∧ ∃ n g m f t, k_sr D E 71 n g m f t ∧ t ((m : Int) - 1) = Int32.ofNat L) ∧ E.1 223 0 = 0 ∧ E.1 223 1 = 0
def k_Rt (D E : am_D) : Prop := ∃ tp : Nat, tp ≤ 300 ∧ D.1 69 1 = Int32.ofNat tp ∧ E.1 117 1 = Int32.ofNat tp ∧ (∀ k, k < tp → D.1 70 k = E.1 118 k) ∧ E.1 117 3 = if D.1 69 2 = 0 then -1 else D.1 69 3
def k_Q (D E : am_D) : Prop := ∃ ns nm nw np nh ni, k_Rs D E ns ∧ k_Rm D E nm ∧ k_Rn D E ∧ k_Rw D E nw ∧ k_Rp D E np ∧ k_Rh D E nh ∧ k_Ri D E ni (k_cn ns nm nw np nh) ∧ k_Rd D E ∧ k_Rt D E
/-! moving the relation's parts to other worlds -/
theorem k_snd_mv {D E D2 E2 : am_D} {s n : Nat} {f : Int → Int32} (h : k_snd D E s n f) (h1 : D2.1 (30 + 2 * s) = D.1 (30 + 2 * s)) (h2 : D2.1 (31 + 2 * s) = D.1 (31 + 2 * s)) (h3 : E2.1 139 s = E.1 139 s) (h4 : E2.1 (134 + s) = E.1 (134 + s)) : k_snd D2 E2 s n f := by
  obtain ⟨a1, a2, a3, a4, a5, a6⟩ := h
  have e : 30 + 2 * s + 1 = 31 + 2 * s := by omega
  exact ⟨a1, a2, j_row_fr a3 h1 (by rw [e]; exact h2), by rw [h3]; exact a4, k_arr_by a5 h4, a6⟩
theorem k_Rs_mv {D E D2 E2 : am_D} {ns : Nat} (h : k_Rs D E ns) (h7 : D2.1 17 7 = D.1 17 7) (h12 : E2.1 117 12 = E.1 117 12) (hD : ∀ y, 30 ≤ y → y < 40 → D2.1 y = D.1 y) (h139 : E2.1 139 = E.1 139) (hE : ∀ y, 134 ≤ y → y < 139 → E2.1 y = E.1 y) : k_Rs D2 E2 ns := by
  obtain ⟨a1, a2, a3, a4⟩ := h
  refine ⟨a1, by rw [h7]; exact a2, by rw [h12]; exact a3, fun s hs => ?_⟩
  obtain ⟨n, f, b⟩ := a4 s hs
  exact ⟨n, f, k_snd_mv b (hD _ (by omega) (by omega)) (hD _ (by omega) (by omega)) (by rw [h139]) (hE _ (by omega) (by omega))⟩
theorem k_rm_mv {E E2 : am_D} {i n : Nat} {f t : Int → Int32} (h : k_rm E i n f t) (hn : n ≤ 12) (h1 : E2.1 201 i = E.1 201 i) (h2 : ∀ k, k < 12 → E2.1 (141 + (12 * i + k)) = E.1 (141 + (12 * i + k))) : k_rm E2 i n f t :=
  ⟨by rw [h1]; exact h.1, fun k hk => by rw [h2 k (by omega)]; exact h.2 k hk⟩
theorem k_Rm_mv {D E D2 E2 : am_D} {nm : Nat} (h : k_Rm D E nm) (h7 : D2.1 17 8 = D.1 17 8) (h12 : E2.1 117 13 = E.1 117 13) (hD : ∀ y, 40 ≤ y → y < 55 → D2.1 y = D.1 y) (h201 : E2.1 201 = E.1 201) (hE : ∀ y, 141 ≤ y → y < 201 → E2.1 y = E.1 y) : k_Rm D2 E2 nm := by
  obtain ⟨a1, a2, a3, a4⟩ := h
  refine ⟨a1, by rw [h7]; exact a2, by rw [h12]; exact a3, fun s hs => ?_⟩
  obtain ⟨n, f, t, b1, b2, b3⟩ := a4 s hs
  exact ⟨n, f, t, b1, j_map_fr b2 (hD _ (by omega) (by omega)) (hD _ (by omega) (by omega)) (hD _ (by omega) (by omega)), k_rm_mv b3 b1.2.1 (by rw [h201]) (fun k hk => hE _ (by omega) (by omega))⟩
theorem k_Rn_mv {D E D2 E2 : am_D} (h : k_Rn D E) (h1 : D2.1 23 = D.1 23) (h2 : ∀ j, 11 ≤ j → D2.1 17 j = D.1 17 j) (h3 : D2.1 22 = D.1 22) (h4 : ∀ j, 14 ≤ j → j ≤ 19 → E2.1 117 j = E.1 117 j) (h5 : E2.1 202 = E.1 202) : k_Rn D2 E2 := by
  obtain ⟨⟨w, o, s, b⟩, ⟨x, y, z, c1, c2, c3, c4, c5, c6, c7, c8, c9, c10, c11, c12⟩, d⟩ := h
  refine ⟨⟨w, o, s, k_ps_by b h1 (h4 14 (by omega) (by omega)) (h4 15 (by omega) (by omega)) (h4 16 (by omega) (by omega))⟩, ⟨x, y, z, c1, c2, c3, c4, c5, c6, ?_, ?_, ?_, ?_, ?_, ?_⟩, fun j hj => ?_⟩
  · rw [h2 _ (by omega)]; exact c7
  · rw [h2 _ (by omega)]; exact c8
  · rw [h2 _ (by omega)]; exact c9
  · rw [h4 _ (by omega) (by omega)]; exact c10
  · rw [h4 _ (by omega) (by omega)]; exact c11
  · rw [h4 _ (by omega) (by omega)]; exact c12
  · rw [h3, h5]; exact d j hj
theorem k_way_mv {D E D2 E2 : am_D} {i : Nat} (h : k_way D E i) (h1 : D2.1 (55 + i) = D.1 (55 + i)) (h2 : E2.1 (206 + i) = E.1 (206 + i)) : k_way D2 E2 i := by
  unfold k_way at h ⊢
  rw [h1, h2]
  exact h
theorem k_Rw_mv {D E D2 E2 : am_D} {nw : Nat} (h : k_Rw D E nw) (h7 : D2.1 17 9 = D.1 17 9) (h12 : E2.1 117 20 = E.1 117 20) (hD : ∀ y, 55 ≤ y → y < 59 → D2.1 y = D.1 y) (hE : ∀ y, 206 ≤ y → y < 210 → E2.1 y = E.1 y) : k_Rw D2 E2 nw := by
  obtain ⟨a1, a2, a3, a4⟩ := h
  exact ⟨a1, by rw [h7]; exact a2, by rw [h12]; exact a3, fun s hs => k_way_mv (a4 s hs) (hD _ (by omega) (by omega)) (hE _ (by omega) (by omega))⟩
theorem k_prt_mv {D E D2 E2 : am_D} {i : Nat} (h : k_prt D E i) (h1 : ∀ y, 25 ≤ y → y < 29 → D2.1 y i = D.1 y i) (h2 : E2.1 (211 + i) = E.1 (211 + i)) : k_prt D2 E2 i := by
  unfold k_prt at h ⊢
  rw [h1 25 (by omega) (by omega), h1 26 (by omega) (by omega), h1 27 (by omega) (by omega), h1 28 (by omega) (by omega), h2]
  exact h
theorem k_Rp_mv {D E D2 E2 : am_D} {np : Nat} (h : k_Rp D E np) (h7 : D2.1 24 5 = D.1 24 5) (h12 : E2.1 117 21 = E.1 117 21) (hD : ∀ y, 25 ≤ y → y < 29 → D2.1 y = D.1 y) (hE : ∀ y, 211 ≤ y → y < 221 → E2.1 y = E.1 y) : k_Rp D2 E2 np := by
  obtain ⟨a1, a2, a3, a4⟩ := h
  exact ⟨a1, by rw [h7]; exact a2, by rw [h12]; exact a3, fun s hs => k_prt_mv (a4 s hs) (fun y h1 h2 => by rw [hD y h1 h2]) (hE _ (by omega) (by omega))⟩
theorem k_Rh_mv {D E D2 E2 : am_D} {nh : Nat} (h : k_Rh D E nh) (h7 : D2.1 17 10 = D.1 17 10) (h12 : E2.1 117 22 = E.1 117 22) (hD : D2.1 21 = D.1 21) (hE : E2.1 203 = E.1 203) : k_Rh D2 E2 nh := by
  obtain ⟨a1, a2, a3, a4⟩ := h
  exact ⟨a1, by rw [h7]; exact a2, by rw [h12]; exact a3, fun s hs => by rw [hD, hE]; exact a4 s hs⟩
theorem k_im_mv {D E D2 E2 : am_D} {i : Nat} {a : Nat → Nat} (h : k_im D E i a) (h1 : D2.1 (60 + 3 * i) = D.1 (60 + 3 * i)) (h2 : D2.1 (61 + 3 * i) = D.1 (61 + 3 * i)) (h3 : D2.1 (62 + 3 * i) = D.1 (62 + 3 * i)) (h4 : E2.1 (2634 + i) = E.1 (2634 + i))
    (hs : ∀ s, s < a 0 → E2.1 139 s = E.1 139 s ∧ ∀ k, k < 600 → E2.1 (134 + s) k = E.1 (134 + s) k) (hm : ∀ m, m < a 1 → E2.1 201 m = E.1 201 m ∧ ∀ k j, k < 12 → j < 2 → E2.1 (141 + (12 * m + k)) j = E.1 (141 + (12 * m + k)) j)
    (hw : ∀ w j, w < a 2 → j < 3 → E2.1 (206 + w) j = E.1 (206 + w) j) (hp : ∀ p j, p < a 3 → j < 4 → E2.1 (211 + p) j = E.1 (211 + p) j) (hh : ∀ z, z < a 4 → E2.1 203 z = E.1 203 z) : k_im D2 E2 i a := by
  obtain ⟨b1, b2, b3, b4, b5, b6, b7, b8, b9, b10⟩ := h
  unfold k_im
  rw [h1, h2, h3, h4]
  exact ⟨b1, b2, b3, b4, b5, fun s q => ⟨by rw [(hs s q).1]; exact (b6 s q).1, fun k hk => by rw [(hs s q).2 k hk]; exact (b6 s q).2 k hk⟩, fun m q => ⟨by rw [(hm m q).1]; exact (b7 m q).1, fun k j hk hj => by rw [(hm m q).2 k j hk hj]; exact (b7 m q).2 k j hk hj⟩, fun w j q hj => by rw [hw w j q hj]; exact b8 w j q hj, fun p j q hj => by rw [hp p j q hj]; exact b9 p j q hj, fun z q => by rw [hh z q]; exact b10 z q⟩
theorem k_Ri_mv {D E D2 E2 : am_D} {ni : Nat} {c c2 : Nat → Nat} (h : k_Ri D E ni c) (hc : ∀ j, c j ≤ c2 j) (h16 : D2.1 16 2 = D.1 16 2) (h23 : E2.1 117 23 = E.1 117 23) (hD : ∀ y, 60 ≤ y → y < 69 → D2.1 y = D.1 y) (hK : ∀ y, 2634 ≤ y → y < 2637 → E2.1 y = E.1 y)
    (hs : ∀ s, s < c 0 → E2.1 139 s = E.1 139 s ∧ ∀ k, k < 600 → E2.1 (134 + s) k = E.1 (134 + s) k) (hm : ∀ m, m < c 1 → E2.1 201 m = E.1 201 m ∧ ∀ k j, k < 12 → j < 2 → E2.1 (141 + (12 * m + k)) j = E.1 (141 + (12 * m + k)) j)
    (hw : ∀ w j, w < c 2 → j < 3 → E2.1 (206 + w) j = E.1 (206 + w) j) (hp : ∀ p j, p < c 3 → j < 4 → E2.1 (211 + p) j = E.1 (211 + p) j) (hh : ∀ z, z < c 4 → E2.1 203 z = E.1 203 z) : k_Ri D2 E2 ni c2 := by
  obtain ⟨a1, a2, a3, a, a4⟩ := h
  refine ⟨a1, by rw [h16]; exact a2, by rw [h23]; exact a3, a, fun i hi => ?_⟩
  obtain ⟨b1, b2, b3⟩ := a4 i hi
  have q0 := b2 0
  have q1 := b2 1
  have q2 := b2 2
  have q3 := b2 3
  have q4 := b2 4
  exact ⟨k_im_mv b1 (hD _ (by omega) (by omega)) (hD _ (by omega) (by omega)) (hD _ (by omega) (by omega)) (hK _ (by omega) (by omega)) (fun s q => hs s (by omega)) (fun m q => hm m (by omega)) (fun w j q hj => hw w j (by omega) hj) (fun p j q hj => hp p j (by omega) hj) (fun z q => hh z (by omega)), fun j => Nat.le_trans (b2 j) (hc j), b3⟩
theorem k_sr_mv {D E D2 E2 : am_D} {r0 n m : Nat} {g f t : Int → Int32} (h : k_sr D E r0 n g m f t) (hD : ∀ y, r0 + 1 ≤ y → y < r0 + 8 → D2.1 y = D.1 y) (h36 : E2.1 117 36 = E.1 117 36) (h37 : E2.1 117 37 = E.1 117 37) (h221 : ∀ y, y < 1200 → E2.1 221 y = E.1 221 y) (h223 : ∀ y, y < 26 → E2.1 223 y = E.1 223 y) : k_sr D2 E2 r0 n g m f t := by
  obtain ⟨a1, a2, a3, a4, a5, a6, a7, a8, a9⟩ := h
  refine ⟨a1, j_row_fr a2 (hD _ (by omega) (by omega)) (hD _ (by omega) (by omega)), by rw [h36]; exact a3, fun k hk => by rw [h221 k (by omega)]; exact a4 k hk, a5, j_map_fr a6 (hD _ (by omega) (by omega)) (hD _ (by omega) (by omega)) (hD _ (by omega) (by omega)), ⟨by rw [h37]; exact a7.1, fun k hk => ?_⟩, a8, a9⟩
  have := a8.2.1
  rw [h223 _ (by omega), h223 _ (by omega)]
  exact a7.2 k hk
theorem k_Rd_mv {D E D2 E2 : am_D} (h : k_Rd D E) (hD : ∀ y, 71 ≤ y → y < 81 → D2.1 y = D.1 y) (hE : ∀ j, 36 ≤ j → j ≤ 40 → E2.1 117 j = E.1 117 j) (hr : ∀ y, y < 1200 → E2.1 221 y = E.1 221 y ∧ E2.1 222 y = E.1 222 y) (hm : ∀ y, y < 26 → E2.1 223 y = E.1 223 y)
    (hs : ∀ q, E.1 117 39 = Int32.ofNat q → q ≤ 600 → ∀ k y, k < q → y < 3 → E2.1 (225 + k) y = E.1 (225 + k) y) : k_Rd D2 E2 := by
  obtain ⟨L, out, q, st, a1, a2, a3, a4, a5, a6, a7, a8, a9, a10, a11, a12, a13, a14⟩ := h
  refine ⟨L, out, q, st, a1, j_row_fr a2 (hD _ (by omega) (by omega)) (hD _ (by omega) (by omega)), ?_, fun k hk => ?_, a5, ?_, ?_, a8, fun k hk => ?_, ?_, ?_, fun hd => ?_, ?_, ?_⟩
  · rw [hE _ (by omega) (by omega)]; exact a3
  · rw [(hr k (by omega)).2]; exact a4 k hk
  · rw [hD _ (by omega) (by omega)]; exact a6
  · rw [hE _ (by omega) (by omega)]; exact a7
  · rw [hD _ (by omega) (by omega), hD _ (by omega) (by omega), hD _ (by omega) (by omega), hs q a7 a8 k 0 hk (by omega), hs q a7 a8 k 1 hk (by omega), hs q a7 a8 k 2 hk (by omega)]; exact a9 k hk
  · rw [hD _ (by omega) (by omega), hE _ (by omega) (by omega)]; exact a10
  · rw [hE _ (by omega) (by omega)]; exact a11
  · rw [hE _ (by omega) (by omega)] at hd
    obtain ⟨b0, n, g, m, f, t, b1, b2⟩ := a12 hd
    exact ⟨by rw [hD 71 (by omega) (by omega)]; exact b0, n, g, m, f, t, k_sr_mv b1 (fun y h1 h2 => hD y (by omega) (by omega)) (hE _ (by omega) (by omega)) (hE _ (by omega) (by omega)) (fun y hy => (hr y hy).1) hm, b2⟩
  · rw [hm _ (by omega)]; exact a13
  · rw [hm _ (by omega)]; exact a14
theorem k_Rt_mv {D E D2 E2 : am_D} (h : k_Rt D E) (h1 : D2.1 69 = D.1 69) (h2 : D2.1 70 = D.1 70) (h3 : E2.1 117 1 = E.1 117 1) (h4 : E2.1 117 3 = E.1 117 3) (h5 : E2.1 118 = E.1 118) : k_Rt D2 E2 := by
  unfold k_Rt at h ⊢
  rw [h1, h2, h3, h4, h5]
  exact h
/-- only what no call sees has changed -/
def k_sc (D D2 : am_D) : Prop := ∀ y, y < 81 → y ≠ 29 → D2.1 y = D.1 y
def k_se (E E2 : am_D) : Prop := (∀ y, ((133 ≤ y ∧ y < 204) ∨ (205 ≤ y ∧ y < 221) ∨ (2633 ≤ y ∧ y < 2637) ∨ y = 118) → E2.1 y = E.1 y) ∧ (∀ j, (j = 1 ∨ j = 3 ∨ (12 ≤ j ∧ j ≤ 23) ∨ (36 ≤ j ∧ j ≤ 40)) → E2.1 117 j = E.1 117 j) ∧ (∀ y, y < 1200 → E2.1 221 y = E.1 221 y ∧ E2.1 222 y = E.1 222 y) ∧ (∀ y, y < 26 → E2.1 223 y = E.1 223 y) ∧ (∀ q, E.1 117 39 = Int32.ofNat q → q ≤ 600 → ∀ k y, k < q → y < 3 → E2.1 (225 + k) y = E.1 (225 + k) y)
theorem k_Q_sc {D E D2 E2 : am_D} (h : k_Q D E) (hD : k_sc D D2) (hE : k_se E E2) : k_Q D2 E2 := by
  obtain ⟨ns, nm, nw, np, nh, ni, h1, h2, h3, h4, h5, h6, h7, h8, h9⟩ := h
  obtain ⟨e1, e2, e3, e4, e5⟩ := hE
  exact ⟨ns, nm, nw, np, nh, ni,
    k_Rs_mv h1 (by rw [hD 17 (by omega) (by omega)]) (e2 _ (by omega)) (fun y a b => hD y (by omega) (by omega)) (e1 _ (by omega)) (fun y a b => e1 y (by omega)),
    k_Rm_mv h2 (by rw [hD 17 (by omega) (by omega)]) (e2 _ (by omega)) (fun y a b => hD y (by omega) (by omega)) (e1 _ (by omega)) (fun y a b => e1 y (by omega)),
    k_Rn_mv h3 (hD _ (by omega) (by omega)) (fun j _ => by rw [hD 17 (by omega) (by omega)]) (hD _ (by omega) (by omega)) (fun j a b => e2 j (by omega)) (e1 _ (by omega)),
    k_Rw_mv h4 (by rw [hD 17 (by omega) (by omega)]) (e2 _ (by omega)) (fun y a b => hD y (by omega) (by omega)) (fun y a b => e1 y (by omega)),
    k_Rp_mv h5 (by rw [hD 24 (by omega) (by omega)]) (e2 _ (by omega)) (fun y a b => hD y (by omega) (by omega)) (fun y a b => e1 y (by omega)),
    k_Rh_mv h6 (by rw [hD 17 (by omega) (by omega)]) (e2 _ (by omega)) (hD _ (by omega) (by omega)) (e1 _ (by omega)),
    k_Ri_mv h7 (fun _ => Nat.le_refl _) (by rw [hD 16 (by omega) (by omega)]) (e2 _ (by omega)) (fun y a b => hD y (by omega) (by omega)) (fun y a b => e1 y (by omega))
      (fun s hs => by have hns : k_cn ns nm nw np nh 0 = ns := rfl; have := h1.1; exact ⟨by rw [e1 139 (by omega)], fun k _ => by rw [e1 (134 + s) (by omega)]⟩)
      (fun m hm => by have hns : k_cn ns nm nw np nh 1 = nm := rfl; have := h2.1; exact ⟨by rw [e1 201 (by omega)], fun k j _ _ => by rw [e1 _ (by omega)]⟩)
      (fun w j hw _ => by have hns : k_cn ns nm nw np nh 2 = nw := rfl; have := h4.1; rw [e1 _ (by omega)])
      (fun p j hp _ => by have hns : k_cn ns nm nw np nh 3 = np := rfl; have := h5.1; rw [e1 _ (by omega)])
      (fun z _ => by rw [e1 203 (by omega)]),
    k_Rd_mv h8 (fun y a b => hD y (by omega) (by omega)) (fun j a b => e2 j (by omega)) e3 e4 e5,
    k_Rt_mv h9 (hD _ (by omega) (by omega)) (hD _ (by omega) (by omega)) (e2 _ (by omega)) (e2 _ (by omega)) (e1 _ (by omega))⟩
/-- class cells and reference cells -/
def k_fc (D D2 : am_D) : Prop := ∀ y, 117 ≤ y → D2.1 y = D.1 y ∧ D2.2 y = D.2 y
def k_fr (E E2 : am_D) : Prop := ∀ y, (y < 117 ∨ 2637 ≤ y) → E2.1 y = E.1 y ∧ E2.2 y = E.2 y
theorem k_Q_left {D E D2 : am_D} (h : k_Q D E) (hD : ∀ y, y < 117 → D2.1 y = D.1 y) : k_Q D2 E := k_Q_sc h (fun y h1 _ => hD y (by omega)) ⟨fun _ _ => rfl, fun _ _ => rfl, fun _ _ => ⟨rfl, rfl⟩, fun _ _ => rfl, fun _ _ _ _ _ _ _ => rfl⟩
theorem k_Q_right {D E E2 : am_D} (h : k_Q D E) (hE : ∀ y, 117 ≤ y → y < 2637 → E2.1 y = E.1 y) : k_Q D E2 := k_Q_sc h (fun _ _ _ => rfl) ⟨fun y hy => hE y (by omega) (by omega), fun j _ => by rw [hE 117 (by omega) (by omega)], fun y _ => ⟨by rw [hE 221 (by omega) (by omega)], by rw [hE 222 (by omega) (by omega)]⟩, fun y _ => by rw [hE 223 (by omega) (by omega)], fun q _ hq k y hk _ => by rw [hE (225 + k) (by omega) (by omega)]⟩
