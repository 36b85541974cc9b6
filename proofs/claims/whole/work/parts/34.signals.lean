/-! the signals: 64 cases at once -/
def sl_E (a b : Int64) (g : Nat → Nat) : Prop := ∀ v, v < 64 → sk_bt a v = decide (g v = 1) ∧ sk_bt b v = decide (g v = 0)
theorem sl_E_congr {a b : Int64} {g g' : Nat → Nat} (h : sl_E a b g) (e : ∀ v, g v = g' v) : sl_E a b g' := by
  rw [← funext e]; exact h
def sl_stp (fam : Nat) (a : Bool × Bool) (x : Nat) : Bool × Bool :=
  if fam = 0 then (a.1 && decide (x = 1), a.2 || decide (x = 0)) else if fam = 1 then (a.1 || decide (x = 1), a.2 && decide (x = 0)) else ((a.1 && decide (x = 0)) || (a.2 && decide (x = 1)), (a.2 && decide (x = 0)) || (a.1 && decide (x = 1)))
def sl_fd (fam : Nat) (xs : List Nat) : Bool × Bool := xs.foldl (sl_stp fam) (decide (fam = 0), decide (¬ fam = 0))
def sl_sw (k : Nat) (a : Bool × Bool) : Bool × Bool := if k % 2 = 1 then (a.2, a.1) else a
abbrev sl_gfP (k : Nat) (xs : List Nat) : Prop := sl_sw k (sl_fd (k / 2) xs) = (decide (sl_gt k xs = 1), decide (sl_gt k xs = 0))
theorem sl_gf1 : ∀ k, k < 6 → ∀ a, a < 3 → sl_gfP k [a] := by decide +kernel
theorem sl_gf2 : ∀ k, k < 6 → ∀ a, a < 3 → ∀ b, b < 3 → sl_gfP k [a, b] := by decide +kernel
theorem sl_gf3 : ∀ k, k < 6 → ∀ a, a < 3 → ∀ b, b < 3 → ∀ c, c < 3 → sl_gfP k [a, b, c] := by decide +kernel
theorem sl_gf {k : Nat} {xs : List Nat} (hk : k < 6) (h1 : 1 ≤ xs.length) (h3 : xs.length ≤ 3) (hx : ∀ x ∈ xs, x ≤ 2) : sl_gfP k xs := by
  match xs, h1, h3, hx with
  | [a], _, _, hx => exact sl_gf1 k hk a (Nat.lt_succ_of_le (hx a (by simp)))
  | [a, b], _, _, hx => exact sl_gf2 k hk a (Nat.lt_succ_of_le (hx a (by simp))) b (Nat.lt_succ_of_le (hx b (by simp)))
  | [a, b, c], _, _, hx => exact sl_gf3 k hk a (Nat.lt_succ_of_le (hx a (by simp))) b (Nat.lt_succ_of_le (hx b (by simp))) c (Nat.lt_succ_of_le (hx c (by simp)))
  | _ :: _ :: _ :: _ :: _, _, h3, _ => exact absurd h3 (by simp)
theorem sl_gt_le (k : Nat) (vs : List Nat) : sl_gt k vs ≤ 2 := by
  unfold sl_gt
  have h : (if k < 2 then (if 0 ∈ vs then 0 else if 2 ∈ vs then 2 else 1) else if k < 4 then (if 1 ∈ vs then 1 else if 2 ∈ vs then 2 else 0) else (if 2 ∈ vs then 2 else vs.count 1 % 2)) ≤ 2 := by
    have := Nat.mod_lt (vs.count 1) (show 0 < 2 by decide)
    split
    · split
      · omega
      · split <;> omega
    · split
      · split
        · omega
        · split <;> omega
      · split <;> omega
  simp only
  revert h
  generalize (if k < 2 then (if 0 ∈ vs then 0 else if 2 ∈ vs then 2 else 1) else if k < 4 then (if 1 ∈ vs then 1 else if 2 ∈ vs then 2 else 0) else (if 2 ∈ vs then 2 else vs.count 1 % 2)) = w
  intro h
  split <;> omega
theorem sl_fb_le (f : Option Nat) : sl_fb f ≤ 1 := by
  cases f with
  | none => exact Nat.zero_le _
  | some q => show q % 2 ≤ 1; omega
theorem sl_v1_le {T : sl_ct} {src : Nat → Nat} {f : Option Nat} {w : Nat → Nat} {l : Nat} (hs : ∀ i, src i ≤ 2) : sl_v1 T src f w l ≤ 2 := by
  unfold sl_v1
  split
  · exact Nat.le_trans (sl_fb_le f) (by decide)
  · split
    · exact hs _
    · exact sl_gt_le _ _
theorem sl_vv_le {T : sl_ct} {src : Nat → Nat} {f : Option Nat} {l : Nat} (hs : ∀ i, src i ≤ 2) : sl_vv T src f l ≤ 2 := by
  unfold sl_vv
  simp only [sl_vt, if_true]
  exact sl_v1_le hs
/-- the values at the pins of a gate -/
def sl_pv (T : sl_ct) (src : Nat → Nat) (f : Option Nat) (l : Nat) (ps : List Nat) : List Nat := ps.mapIdx (fun j x => if sl_at f (cN T + sl_np (cD T) l + j) = true then sl_fb f else sl_vv T src f x)
theorem sl_pv_at {T : sl_ct} {src : Nat → Nat} {f : Option Nat} {l : Nat} {ps : List Nat} {j x : Nat} (h : ps[j]? = some x) : (sl_pv T src f l ps)[j]? = some (if sl_at f (cN T + sl_np (cD T) l + j) = true then sl_fb f else sl_vv T src f x) := by
  unfold sl_pv
  rw [List.getElem?_mapIdx, h]; rfl
theorem sl_pv_len {T : sl_ct} {src : Nat → Nat} {f : Option Nat} {l : Nat} {ps : List Nat} : (sl_pv T src f l ps).length = ps.length := by simp [sl_pv]
theorem sl_pv_le {T : sl_ct} {src : Nat → Nat} {f : Option Nat} {l : Nat} {ps : List Nat} (hs : ∀ i, src i ≤ 2) : ∀ x ∈ sl_pv T src f l ps, x ≤ 2 := by
  intro x hx
  obtain ⟨j, hj⟩ := List.getElem?_of_mem hx
  unfold sl_pv at hj
  rw [List.getElem?_mapIdx] at hj
  cases hp : ps[j]? with
  | none => rw [hp] at hj; cases hj
  | some y =>
    rw [hp] at hj
    simp only [Option.map_some, Option.some.injEq] at hj
    rw [← hj]
    split
    · exact Nat.le_trans (sl_fb_le f) (by decide)
    · exact sl_vv_le hs
theorem sl_vv_gate {T : sl_ct} {src : Nat → Nat} {f : Option Nat} {l k : Nat} {ps : List Nat} (hw : sl_wf T) (hl : l < cN T) (hd : cD T l = .inr (k, ps)) (ha : ¬ sl_at f l = true) : sl_vv T src f l = sl_gt k (sl_pv T src f l ps) := by
  rw [sl_vv_eq hw src f hl]
  unfold sl_v1
  rw [if_neg ha, hd]
  rfl
theorem sl_vv_src {T : sl_ct} {src : Nat → Nat} {f : Option Nat} {l : Nat} {b : Bool} (hw : sl_wf T) (hl : l < cN T) (hd : cD T l = .inl b) (ha : ¬ sl_at f l = true) : sl_vv T src f l = src (sl_ns (cD T) l) := by
  rw [sl_vv_eq hw src f hl]
  unfold sl_v1
  rw [if_neg ha, hd]
theorem sl_vv_at {T : sl_ct} {src : Nat → Nat} {f : Option Nat} {l : Nat} (hw : sl_wf T) (hl : l < cN T) (ha : sl_at f l = true) : sl_vv T src f l = sl_fb f := by
  rw [sl_vv_eq hw src f hl]
  unfold sl_v1
  rw [if_pos ha]
/-- a valid fault, or none -/
def sl_vf (T : sl_ct) (f : Option Nat) : Prop := ∀ q, f = some q → q < cF T
theorem sl_vf_256 {T : sl_ct} {f : Option Nat} (hw : sl_wf T) (h : sl_vf T f) : ∀ q, f = some q → q < 256 := fun q hq => by
  have h1 := h q hq
  have h2 := sl_F_le hw
  have h3 : q < cF T := h1
  omega
theorem sl_sp_iff {T : sl_ct} {f : Option Nat} {t : Nat} (hw : sl_wf T) (hf : sl_vf T f) (ht : t < 256) : nI t = sl_sp T f ↔ sl_at f (cN T + t) = true := by
  have ht31 : t < 2 ^ 31 := sl_lt31 (m := 256) (by omega) (by decide)
  cases f with
  | none =>
    show nI t = -1 ↔ false = true
    exact ⟨fun h => absurd h (zI_m1 ht31), fun h => by cases h⟩
  | some q =>
    have hq := sl_vf_256 hw hf q rfl
    show nI t = (if q / 2 < cN T then -1 else nI (q / 2 - cN T)) ↔ (q / 2 == cN T + t) = true
    rw [beq_iff_eq]
    split
    · exact ⟨fun h => absurd h (zI_m1 ht31), fun h => by omega⟩
    · rw [zI_inj ht31 (sl_lt31 (m := 256) (by omega) (by decide))]; omega
theorem sl_sl_iff {T : sl_ct} {f : Option Nat} {l : Nat} (hw : sl_wf T) (hf : sl_vf T f) (hl : l < cN T) : nI l = sl_sl T f ↔ sl_at f l = true := by
  have hN := hw.1
  have ht31 : l < 2 ^ 31 := sl_lt31 (m := 256) (by omega) (by decide)
  cases f with
  | none =>
    show nI l = -1 ↔ false = true
    exact ⟨fun h => absurd h (zI_m1 ht31), fun h => by cases h⟩
  | some q =>
    have hq := sl_vf_256 hw hf q rfl
    show nI l = (if q / 2 < cN T then nI (q / 2) else -1) ↔ (q / 2 == l) = true
    rw [beq_iff_eq]
    split
    · rw [zI_inj ht31 (sl_lt31 (m := 256) (by omega) (by decide))]; omega
    · exact ⟨fun h => absurd h (zI_m1 ht31), fun h => by omega⟩
/-- the stuck word -/
def sl_so (f : Option Nat) : Int64 := match f with | none => -1 | some q => if q % 2 = 1 then -1 else 0
theorem sl_so_E {f : Option Nat} {s : Nat} (h : sl_at f s = true) : sl_E (sl_so f) (sl_so f ^^^ -1) (fun _ => sl_fb f) := by
  intro v hv
  cases f with
  | none => cases h
  | some q =>
    rw [bt_not _ hv]
    show sk_bt (if q % 2 = 1 then -1 else 0) v = decide (q % 2 = 1) ∧ (!sk_bt (if q % 2 = 1 then -1 else 0) v) = decide (q % 2 = 0)
    by_cases hq : q % 2 = 1
    · rw [if_pos hq, bt_m1 hv, hq]; exact ⟨rfl, rfl⟩
    · have : q % 2 = 0 := by omega
      rw [if_neg hq, bt_0, this]; exact ⟨rfl, rfl⟩
theorem sl_E_stp {fam : Nat} {a b p1 p0 : Int64} {g : Nat → Bool × Bool} {pv : Nat → Nat} (hab : ∀ v, v < 64 → (sk_bt a v, sk_bt b v) = g v) (hp : sl_E p1 p0 pv) :
    (fam = 0 → ∀ v, v < 64 → (sk_bt (a &&& p1) v, sk_bt (b ||| p0) v) = sl_stp fam (g v) (pv v)) ∧ (fam = 1 → ∀ v, v < 64 → (sk_bt (a ||| p1) v, sk_bt (b &&& p0) v) = sl_stp fam (g v) (pv v)) ∧
    (¬ fam = 0 → ¬ fam = 1 → ∀ v, v < 64 → (sk_bt ((a &&& p0) ||| (b &&& p1)) v, sk_bt ((b &&& p0) ||| (a &&& p1)) v) = sl_stp fam (g v) (pv v)) := by
  refine ⟨fun h0 v hv => ?_, fun h1 v hv => ?_, fun h0 h1 v hv => ?_⟩
  · rw [← hab v hv, bt_and, bt_or, (hp v hv).1, (hp v hv).2]
    unfold sl_stp; rw [if_pos h0]
  · rw [← hab v hv, bt_and, bt_or, (hp v hv).1, (hp v hv).2]
    unfold sl_stp; rw [if_neg (by omega), if_pos h1]
  · rw [← hab v hv, bt_or, bt_or, bt_and, bt_and, bt_and, bt_and, (hp v hv).1, (hp v hv).2]
    unfold sl_stp; rw [if_neg h0, if_neg h1]
theorem zI_fam : ∀ k, k < 6 → (nI k >>> (1 &&& 31) = 0 ↔ k / 2 = 0) ∧ (nI k >>> (1 &&& 31) = 1 ↔ k / 2 = 1) ∧ (nI k &&& 1 = 1 ↔ k % 2 = 1) := by decide +kernel
section SS
variable {Γ : sk_T} {I : sk_I} {J : sk_J} {T : sl_ct} {o : Nat}
theorem t_S_settleGate {l k : Nat} {ps : List Nat} {f : Option Nat} {src : Nat → Nat → Nat} {K : sk_I → sk_J → Prop} (ho : sk_sg o) (hw : sl_wf T) (hr : sl_rc T I) (hl : l < cN T) (hd : cD T l = .inr (k, ps)) (hf : sl_vf T f) (h5 : I o 5 = sl_sp T f) (h6 : J o 6 = sl_so f) (hsrc : ∀ v i, src v i ≤ 2)
    (hE : ∀ x, x < l → sl_E (J (o + 3) x) (J (o + 4) x) (fun v => sl_vv T (src v) f x))
    (h : ∀ a b, sl_E a b (fun v => sl_gt k (sl_pv T (src v) f l ps)) → K I (sk_pj (sk_pj J (o + 3) l a) (o + 4) l b)) : sk_S Γ m_S_settleGate 0 0 [.ref o, .int (nI l)] sk_gg I J (sk_Kv K) := by
  refine sk_spec (by decide) rfl (by exact Nat.le_of_ble_eq_true rfl) ?_
  obtain ⟨hk, hp1, hp3, hpx⟩ := hw.2.2.2.2.1 l hl k ps hd
  have hN := hw.1
  have hl31 : l < 2 ^ 31 := sl_lt31 (m := 27) (by omega) (by decide)
  have hl31' : l + 1 < 2 ^ 31 := sl_lt31 (m := 27) (by omega) (by decide)
  obtain ⟨r2, -, rp⟩ := hr.2.2.1 l hl k ps hd
  have r5 := hr.2.2.2.1 l (by omega)
  have r5' := hr.2.2.2.1 (l + 1) (by omega)
  have en : sl_np (cD T) (l + 1) = sl_np (cD T) l + ps.length := by simp only [sl_np]; rw [hd]; rfl
  rw [en] at r5'
  have hnp := sl_np_le hw (l + 1) (by omega)
  rw [en] at hnp
  obtain ⟨z0, z1, zo⟩ := zI_fam k hk
  have loop : ∀ d j (a b : Int64) (c : Int32), (c = 0 ↔ ¬ k % 2 = 1) → j + d = ps.length → (∀ v, v < 64 → (sk_bt a v, sk_bt b v) = sl_fd (k / 2) ((sl_pv T (src v) f l ps).take j)) →
      sk_W Γ m_S_settleGate 0 0 65 [(0, .ref o), (1, .int (nI l)), (2, .int (nI k >>> (1 &&& 31))), (3, .int c), (4, .long a), (6, .long b), (8, .int (nI (sl_np (cD T) l + j)))] [] sk_gg I J 0 0 (sk_Kv K) := by
    intro d
    induction d with
    | zero =>
      intro j a b c hc hj hab
      have hj : j = ps.length := by omega
      subst hj
      refine s_S_settleGate_65 ho ?_
      rw [show nI l + 1 = nI (l + 1) from (nI_succ l).symm, zI_cl hl31', r5']
      have fin : ∀ v, v < 64 → sl_sw k (sk_bt a v, sk_bt b v) = (decide (sl_gt k (sl_pv T (src v) f l ps) = 1), decide (sl_gt k (sl_pv T (src v) f l ps) = 0)) := by
        intro v hv
        rw [hab v hv]
        have e : (sl_pv T (src v) f l ps).take ps.length = sl_pv T (src v) f l ps := List.take_of_length_le (by rw [sl_pv_len]; exact Nat.le_refl _)
        rw [e]
        exact sl_gf hk (by rw [sl_pv_len]; exact hp1) (by rw [sl_pv_len]; exact hp3) (sl_pv_le (hsrc v))
      refine ⟨vp_nat (by omega) (by decide), fun _ => ⟨fun hc0 => ?_, fun hc0 => ?_⟩, fun hn => absurd ((zI_le (sl_lt31 (m := 100) (by omega) (by decide)) (sl_lt31 (m := 100) (by omega) (by decide))).mpr (Nat.le_refl _)) hn⟩
      · refine s_S_settleGate_242 ho ?_
        rw [zI_cl hl31]
        refine ⟨vp_nat (by omega) (by decide), fun _ => ⟨vp_nat (by omega) (by decide), rfl, rfl, h a b fun v hv => ?_⟩, fun hn => absurd hc0 hn⟩
        have := fin v hv
        unfold sl_sw at this
        rw [if_neg (hc.mp hc0)] at this
        exact ⟨congrArg Prod.fst this, congrArg Prod.snd this⟩
      · refine s_S_settleGate_242 ho ?_
        rw [zI_cl hl31]
        refine ⟨vp_nat (by omega) (by decide), fun hn => absurd hn hc0, fun _ => ⟨vp_nat (by omega) (by decide), rfl, rfl, h b a fun v hv => ?_⟩⟩
        have := fin v hv
        unfold sl_sw at this
        rw [if_pos (Classical.byContradiction fun hq => hc0 (hc.mpr hq))] at this
        exact ⟨congrArg Prod.fst this, congrArg Prod.snd this⟩
    | succ d ih =>
      intro j a b c hc hj hab
      have hjp : j < ps.length := by omega
      obtain ⟨q6, -⟩ := rp j ps[j] (List.getElem?_eq_getElem hjp)
      have hpl := hpx ps[j] (List.getElem_mem hjp)
      have hx31 : ps[j] < 2 ^ 31 := sl_lt31 (m := 27) (by omega) (by decide)
      have hm31 : sl_np (cD T) l + j < 2 ^ 31 := sl_lt31 (m := 100) (by omega) (by decide)
      have s145 : ∀ p1 p0 : Int64, sl_E p1 p0 (fun v => if sl_at f (cN T + sl_np (cD T) l + j) = true then sl_fb f else sl_vv T (src v) f ps[j]) →
          sk_W Γ m_S_settleGate 0 0 145 [(0, .ref o), (1, .int (nI l)), (2, .int (nI k >>> (1 &&& 31))), (3, .int c), (4, .long a), (6, .long b), (8, .int (nI (sl_np (cD T) l + j))), (10, .long p1)] [.long p0] sk_gg I J 0 0 (sk_Kv K) := by
        intro p1 p0 hp
        obtain ⟨g0, g1, g2⟩ := sl_E_stp (fam := k / 2) hab hp
        have tk : ∀ v, sl_fd (k / 2) ((sl_pv T (src v) f l ps).take (j + 1)) = sl_stp (k / 2) (sl_fd (k / 2) ((sl_pv T (src v) f l ps).take j)) (if sl_at f (cN T + sl_np (cD T) l + j) = true then sl_fb f else sl_vv T (src v) f ps[j]) := by
          intro v
          rw [List.take_succ, sl_pv_at (List.getElem?_eq_getElem hjp)]
          unfold sl_fd
          rw [List.foldl_append]
          rfl
        refine s_S_settleGate_145 ho ?_
        rw [show nI (sl_np (cD T) l + j) + 1 = nI (sl_np (cD T) l + (j + 1)) from (nI_succ _).symm]
        refine ⟨fun n0 => ⟨fun n1 => ?_, fun e1 => ?_⟩, fun e0 => ?_⟩
        · exact ih (j + 1) _ _ c hc (by omega) (fun v hv => by rw [tk v]; exact g2 (fun e => n0 (z0.mpr e)) (fun e => n1 (z1.mpr e)) v hv)
        · exact ih (j + 1) _ _ c hc (by omega) (fun v hv => by rw [tk v]; exact g1 (z1.mp e1) v hv)
        · exact ih (j + 1) _ _ c hc (by omega) (fun v hv => by rw [tk v]; exact g0 (z0.mp e0) v hv)
      refine s_S_settleGate_65 ho ?_
      rw [show nI l + 1 = nI (l + 1) from (nI_succ l).symm, zI_cl hl31', r5', zI_cl hm31, q6, zI_cl hx31]
      refine ⟨vp_nat (by omega) (by decide), fun hle => ?_, fun _ => ⟨vp_nat (by omega) (by decide), fun hne => ⟨vp_nat (by omega) (by decide), ?_⟩, fun he => ?_⟩⟩
      · rw [zI_le (sl_lt31 (m := 100) (by omega) (by decide)) hm31] at hle; omega
      · refine s_S_settleGate_116 ho ⟨fun _ => ?_, fun he => absurd he hne⟩
        rw [zI_cl hx31]
        refine ⟨vp_nat (by omega) (by decide), s145 _ _ ?_⟩
        rw [h5, sl_sp_iff hw hf (by omega), ← Nat.add_assoc] at hne
        simp only [if_neg hne]
        exact hE _ hpl
      · refine s_S_settleGate_116 ho ⟨fun hne => absurd he hne, fun _ => s145 _ _ ?_⟩
        rw [h5, sl_sp_iff hw hf (by omega), ← Nat.add_assoc] at he
        simp only [if_pos he]
        rw [h6]
        exact sl_so_E he
  refine s_S_settleGate_0 ho ?_
  rw [zI_cl hl31, r2]
  have hv26 : vp_in (nI l) 26 := vp_nat (by omega) (by decide)
  have hv27 : vp_in (nI l) 27 := vp_nat (by omega) (by decide)
  have s32 : ∀ c : Int32, (c = 0 ↔ ¬ k % 2 = 1) → sk_W Γ m_S_settleGate 0 0 32 [(0, .ref o), (1, .int (nI l)), (2, .int (nI k >>> (1 &&& 31)))] [.int c] sk_gg I J 0 0 (sk_Kv K) := by
    intro c hc
    refine s_S_settleGate_32 ho ?_
    rw [zI_cl hl31, r5]
    refine ⟨fun n0 => ⟨hv27, ?_⟩, fun e0 => ⟨hv27, ?_⟩⟩
    · refine loop ps.length 0 _ _ c hc (by omega) (fun v hv => ?_)
      rw [bt_not _ hv, bt_0]
      have : ¬ k / 2 = 0 := fun e => n0 (z0.mpr e)
      simp [sl_fd, this]
    · refine loop ps.length 0 _ _ c hc (by omega) (fun v hv => ?_)
      rw [bt_not _ hv, bt_m1 hv]
      have : k / 2 = 0 := z0.mp e0
      simp [sl_fd, this]
  refine ⟨hv26, hv26, fun hn => s32 0 ⟨fun _ e => hn (zo.mpr e), fun _ => rfl⟩, fun he => s32 1 ⟨fun e => absurd e (by decide), fun hn => absurd (zo.mp he) hn⟩⟩
theorem sg_ge (ho : sk_sg o) : 10 < o ∧ o < 32 := by rcases ho with rfl | rfl | rfl | rfl <;> decide
theorem t_S_settle {f : Option Nat} {src : Nat → Nat → Nat} {K : sk_I → sk_J → Prop} (ho : sk_sg o) (hw : sl_wf T) (hr : sl_rc T I) (hf : sl_vf T f) (hsrc : ∀ v i, src v i ≤ 2)
    (hs : ∀ i, i < 6 → sl_E (J (o + 1) i) (J (o + 2) i) (fun v => src v i))
    (h : ∀ (I' : sk_I) (J' : sk_J), (∀ q, q ≠ o → I' q = I q) → (∀ q, q < o ∨ o + 4 < q → J' q = J q) → (∀ l, l < cN T → sl_E (J' (o + 3) l) (J' (o + 4) l) (fun v => sl_vv T (src v) f l)) → K I' J') : sk_S Γ m_S_settle 0 0 [.ref o, .int (sl_fi f)] sk_gg I J (sk_Kv K) := by
  refine sk_spec (by decide) rfl (by exact Nat.le_of_ble_eq_true rfl) ?_
  have h256 := sl_vf_256 hw hf
  have hN := hw.1
  have hN31 := sl_N31 hw
  have hog := sg_ge ho
  refine s_S_settle_0 ho ?_
  refine t_C_stuckLine hw hr.1.1 h256 ?_
  refine s_S_settle_8 ho ?_
  refine t_C_stuckPin hw hr.1.1 h256 ?_
  have hr1 : sl_rc T (sk_pi I o 5 (sl_sp T f)) := sl_rc_frame hr (fun j _ _ => by rw [pi_q _ _ _ _ (by omega)]) (fun q _ _ => pi_q _ _ _ _ (by omega))
  have loop : ∀ d n (J1 : sk_J), n + d = cN T → (∀ q, q < o ∨ o + 4 < q → J1 q = J q) → J1 o 6 = sl_so f → J1 (o + 1) = J (o + 1) → J1 (o + 2) = J (o + 2) → (∀ l, l < n → sl_E (J1 (o + 3) l) (J1 (o + 4) l) (fun v => sl_vv T (src v) f l)) →
      sk_W Γ m_S_settle 0 0 41 [(0, .ref o), (2, .int (sl_sl T f)), (3, .int (nI n))] [] sk_gg (sk_pi I o 5 (sl_sp T f)) J1 0 0 (sk_Kv K) := by
    intro d
    induction d with
    | zero =>
      intro n J1 hn jq j6 j1 j2 jE
      have hn : n = cN T := by omega
      subst hn
      refine s_S_settle_41 ho ⟨fun _ => ⟨rfl, rfl, h _ _ (fun q hq => pi_q _ _ _ _ hq) jq jE⟩, fun hc => absurd ?_ hc⟩
      rw [hr1.1.1]; exact (zI_le hN31 hN31).mpr (Nat.le_refl _)
    | succ d ih =>
      intro n J1 hn jq j6 j1 j2 jE
      have hnN : n < cN T := by omega
      have hn31 : n < 2 ^ 31 := by omega
      have nxt : ∀ a b : Int64, sl_E a b (fun v => sl_vv T (src v) f n) → sk_W Γ m_S_settle 0 0 145 [(0, .ref o), (2, .int (sl_sl T f)), (3, .int (nI n))] [] sk_gg (sk_pi I o 5 (sl_sp T f)) (sk_pj (sk_pj J1 (o + 3) n a) (o + 4) n b) 0 0 (sk_Kv K) := by
        intro a b hab
        refine s_S_settle_145 ho ?_
        rw [show nI n + 1 = nI (n + 1) from (nI_succ n).symm]
        refine ih (n + 1) _ (by omega) (fun q hq => ?_) ?_ ?_ ?_ (fun l hl => ?_)
        · rw [pj_q _ _ _ _ (by omega), pj_q _ _ _ _ (by omega), jq q hq]
        · rw [pj_q _ _ _ _ (by omega), pj_q _ _ _ _ (by omega), j6]
        · rw [pj_q _ _ _ _ (by omega), pj_q _ _ _ _ (by omega), j1]
        · rw [pj_q _ _ _ _ (by omega), pj_q _ _ _ _ (by omega), j2]
        · rw [pj_q _ (o + 4) _ _ (show o + 3 ≠ o + 4 by omega), pj_at, pj_at, pj_q _ (o + 3) _ _ (show o + 4 ≠ o + 3 by omega)]
          by_cases hln : l = n
          · subst hln
            rw [if_pos rfl, if_pos rfl]; exact hab
          · rw [if_neg hln, if_neg hln]; exact jE l (by omega)
      have hv : vp_in (nI n) 26 := vp_nat (by omega) (by decide)
      refine s_S_settle_41 ho ⟨fun hc => ?_, fun _ => ⟨fun hne => ⟨hv, ?_, ?_⟩, fun he => ?_⟩⟩
      · rw [hr1.1.1, zI_le hN31 hn31] at hc; omega
      · intro h2
        rw [sl_sl_iff hw hf hnN] at hne
        cases hd : cD T n with
        | inl b => exact absurd (by rw [zI_cl hn31]; exact (hr1.2.1 n hnN b hd).1) h2
        | inr kp =>
          obtain ⟨k, ps⟩ := kp
          exact t_S_settleGate (src := src) ho hw hr1 hnN hd hf (pi_eq _ _ _ _) j6 hsrc jE (fun a b hab => nxt a b (sl_E_congr hab (fun v => (sl_vv_gate hw hnN hd hne).symm)))
      · intro h2
        rw [zI_cl hn31] at h2
        rw [sl_sl_iff hw hf hnN] at hne
        cases hd : cD T n with
        | inr kp =>
          obtain ⟨k, ps⟩ := kp
          rw [(hr1.2.2.1 n hnN k ps hd).1] at h2
          have := (hw.2.2.2.2.1 n hnN k ps hd).1
          exact absurd h2 (zI_m1 (sl_lt31 (m := 27) (by omega) (by decide)))
        | inl b =>
          have hns : sl_ns (cD T) n < 6 := by
            have e2 : sl_ns (cD T) (n + 1) ≤ cS T := sl_ns_mono (cD T) (by omega)
            have e3 : sl_ns (cD T) (n + 1) = sl_ns (cD T) n + 1 := by simp only [sl_ns]; rw [hd]; rfl
            have e4 := hw.2.1
            omega
          have hns31 : sl_ns (cD T) n < 2 ^ 31 := sl_lt31 (m := 27) (by omega) (by decide)
          rw [zI_cl hn31, (hr1.2.1 n hnN b hd).2.1, zI_cl hns31]
          have hv6 : vp_in (nI (sl_ns (cD T) n)) 6 := vp_nat hns (by decide)
          refine ⟨hv, hv6, hv, hv, hv6, hv, nxt _ _ ?_⟩
          rw [pj_q _ _ _ _ (show o + 2 ≠ o + 3 by omega), j1, j2]
          exact sl_E_congr (hs _ hns) (fun v => (sl_vv_src hw hnN hd hne).symm)
      · rw [zI_cl hn31]
        refine ⟨hv, hv, nxt _ _ ?_⟩
        rw [pj_q _ _ _ _ (show o ≠ o + 3 by omega), j6]
        rw [sl_sl_iff hw hf hnN] at he
        exact sl_E_congr (sl_so_E he) (fun v => (sl_vv_at hw hnN he).symm)
  refine s_S_settle_18 ho ?_
  have go : sk_W Γ m_S_settle 0 0 41 [(0, .ref o), (2, .int (sl_sl T f)), (3, .int 0)] [] sk_gg (sk_pi I o 5 (sl_sp T f)) (sk_pj J o 6 (sl_so f)) 0 0 (sk_Kv K) := by
    refine loop (cN T) 0 _ (by omega) (fun q hq => pj_q _ _ _ _ (by omega)) (pj_eq _ _ _ _) (pj_q _ _ _ _ (by omega)) (pj_q _ _ _ _ (by omega)) (fun l hl => absurd hl (Nat.not_lt_zero _))
  cases f with
  | none => exact ⟨fun hn => absurd (by decide +kernel : (-1 : Int32) &&& 1 = 1) hn, fun _ => go⟩
  | some q =>
    have hq := h256 q rfl
    have e : sl_fi (some q) &&& 1 = nI (q % 2) := zI_odd q hq
    rw [e]
    by_cases h1 : q % 2 = 1
    · have e2 : sl_so (some q) = -1 := by simp [sl_so, h1]
      rw [e2] at go
      exact ⟨fun hn => absurd (by rw [h1]; rfl) hn, fun _ => go⟩
    · have e2 : sl_so (some q) = 0 := by simp [sl_so, h1]
      have h0 : q % 2 = 0 := by omega
      rw [e2] at go
      exact ⟨fun _ => go, fun hn => absurd hn (by rw [h0]; decide +kernel)⟩
theorem sl_sivE : ∀ i, i < 6 → ∀ v, v < 64 → sk_bt (sk_siv i) v = decide (sl_sv v i = 1) ∧ (!sk_bt (sk_siv i) v) = decide (sl_sv v i = 0) := by decide +kernel
theorem sl_sv_le (v i : Nat) : sl_sv v i ≤ 1 := by unfold sl_sv; omega
theorem sl_sc_le (a w i : Nat) : sl_sc a w i ≤ 2 := by unfold sl_sc; split <;> omega
theorem t_S_settleVectors {f : Option Nat} {K : sk_I → sk_J → Prop} (ho : sk_sg o) (hw : sl_wf T) (hr : sl_rc T I) (hf : sl_vf T f)
    (h : ∀ (I' : sk_I) (J' : sk_J), (∀ q, q ≠ o → I' q = I q) → (∀ q, q < o ∨ o + 4 < q → J' q = J q) → (∀ l, l < cN T → sl_E (J' (o + 3) l) (J' (o + 4) l) (fun v => sl_vv T (sl_sv v) f l)) → K I' J') : sk_S Γ m_S_settleVectors 0 0 [.ref o, .int (sl_fi f)] sk_gg I J (sk_Kv K) := by
  refine sk_spec (by decide) rfl (by exact Nat.le_of_ble_eq_true rfl) ?_
  refine s_S_settleVectors_0 ho ?_
  have loop : ∀ d i (J1 : sk_J), i + d = 6 → (∀ q, q < o ∨ o + 4 < q → J1 q = J q) → (∀ k, k < i → sl_E (J1 (o + 1) k) (J1 (o + 2) k) (fun v => sl_sv v k)) →
      sk_W Γ m_S_settleVectors 0 0 2 [(0, .ref o), (1, .int (sl_fi f)), (2, .int (nI i))] [] sk_gg I J1 0 0 (sk_Kv K) := by
    intro d
    induction d with
    | zero =>
      intro i J1 hi jq jE
      have hi : i = 6 := by omega
      subst hi
      refine s_S_settleVectors_2 ho ⟨fun _ => ?_, fun hc => absurd (by decide +kernel) hc⟩
      refine t_S_settle (src := sl_sv) ho hw hr hf (fun v i => Nat.le_trans (sl_sv_le v i) (by decide)) jE (fun I' J' a b c => ?_)
      refine s_S_settleVectors_45 ho ⟨rfl, rfl, h I' J' a (fun q hq => ?_) c⟩
      rw [b q hq, jq q hq]
    | succ d ih =>
      intro i J1 hi jq jE
      have hi6 : i < 6 := by omega
      have hi31 : i < 2 ^ 31 := sl_lt31 (m := 6) (by omega) (by decide)
      have hv : vp_in (nI i) 6 := vp_nat hi6 (by decide)
      refine s_S_settleVectors_2 ho ⟨fun hc => ?_, fun _ => ?_⟩
      · rw [show (6 : Int32) = nI 6 by decide +kernel, zI_le (by decide) hi31] at hc; omega
      · rw [zI_cl hi31, show nI i + 1 = nI (i + 1) from (nI_succ i).symm]
        refine ⟨hv, hv, hv, hv, ih (i + 1) _ (by omega) (fun q hq => ?_) (fun k hk => ?_)⟩
        · rw [pj_q _ _ _ _ (by omega), pj_q _ _ _ _ (by omega), jq q hq]
        · rw [pj_q _ (o + 2) _ _ (show o + 1 ≠ o + 2 by omega), pj_at, pj_at, pj_q _ (o + 1) _ _ (show o + 2 ≠ o + 1 by omega)]
          by_cases hki : k = i
          · subst hki
            rw [if_pos rfl, if_pos rfl]
            intro v hv
            rw [bt_not _ hv]
            exact sl_sivE k hi6 v hv
          · rw [if_neg hki, if_neg hki]; exact jE k (by omega)
  exact loop 6 0 J (by omega) (fun _ _ => rfl) (fun k hk => absurd hk (Nat.not_lt_zero _))
theorem zI_bit : ∀ a, a < 64 → ∀ i, i < 6 → (nI a >>> (nI i &&& 31)) &&& 1 = nI (a / 2 ^ i % 2) := by decide +kernel
theorem t_S_settleCube {f : Option Nat} {a w : Nat} {K : sk_I → sk_J → Prop} (ho : sk_sg o) (hw : sl_wf T) (hr : sl_rc T I) (hf : sl_vf T f) (ha : a < 64) (hww : w < 64)
    (h : ∀ (I' : sk_I) (J' : sk_J), (∀ q, q ≠ o → I' q = I q) → (∀ q, q < o ∨ o + 4 < q → J' q = J q) → (∀ l, l < cN T → sl_E (J' (o + 3) l) (J' (o + 4) l) (fun _ => sl_vv T (sl_sc a w) f l)) → K I' J') : sk_S Γ m_S_settleCube 0 0 [.ref o, .int (nI a), .int (nI w), .int (sl_fi f)] sk_gg I J (sk_Kv K) := by
  refine sk_spec (by decide) rfl (by exact Nat.le_of_ble_eq_true rfl) ?_
  refine s_S_settleCube_0 ho ?_
  have loop : ∀ d i (J1 : sk_J), i + d = 6 → (∀ q, q < o ∨ o + 4 < q → J1 q = J q) → (∀ k, k < i → sl_E (J1 (o + 1) k) (J1 (o + 2) k) (fun _ => sl_sc a w k)) →
      sk_W Γ m_S_settleCube 0 0 3 [(0, .ref o), (1, .int (nI a)), (2, .int (nI w)), (3, .int (sl_fi f)), (4, .int (nI i))] [] sk_gg I J1 0 0 (sk_Kv K) := by
    intro d
    induction d with
    | zero =>
      intro i J1 hi jq jE
      have hi : i = 6 := by omega
      subst hi
      refine s_S_settleCube_3 ho ⟨fun _ => ?_, fun hc => absurd (by decide +kernel) hc⟩
      refine t_S_settle (src := fun _ => sl_sc a w) ho hw hr hf (fun _ i => sl_sc_le a w i) jE (fun I' J' a b c => ?_)
      refine s_S_settleCube_103 ho ⟨rfl, rfl, h I' J' a (fun q hq => ?_) c⟩
      rw [b q hq, jq q hq]
    | succ d ih =>
      intro i J1 hi jq jE
      have hi6 : i < 6 := by omega
      have hi31 : i < 2 ^ 31 := sl_lt31 (m := 6) (by omega) (by decide)
      have hv : vp_in (nI i) 6 := vp_nat hi6 (by decide)
      have nxt : ∀ p q : Int64, sl_E p q (fun _ => sl_sc a w i) → sk_W Γ m_S_settleCube 0 0 3 [(0, .ref o), (1, .int (nI a)), (2, .int (nI w)), (3, .int (sl_fi f)), (4, .int (nI i + 1))] [] sk_gg I (sk_pj (sk_pj J1 (o + 1) i p) (o + 2) i q) 0 0 (sk_Kv K) := by
        intro p q hpq
        rw [show nI i + 1 = nI (i + 1) from (nI_succ i).symm]
        refine ih (i + 1) _ (by omega) (fun q hq => ?_) (fun k hk => ?_)
        · rw [pj_q _ _ _ _ (by omega), pj_q _ _ _ _ (by omega), jq q hq]
        · rw [pj_q _ (o + 2) _ _ (show o + 1 ≠ o + 2 by omega), pj_at, pj_at, pj_q _ (o + 1) _ _ (show o + 2 ≠ o + 1 by omega)]
          by_cases hki : k = i
          · subst hki
            rw [if_pos rfl, if_pos rfl]; exact hpq
          · rw [if_neg hki, if_neg hki]; exact jE k (by omega)
      have b1 : ∀ x, x < 64 → ((nI x >>> (nI i &&& 31)) &&& 1 = 1 ↔ x / 2 ^ i % 2 = 1) := by
        intro x hx
        rw [zI_bit x hx i hi6, zI_1]
        exact zI_inj (sl_lt31 (m := 2) (by omega) (by decide)) (by decide)
      refine s_S_settleCube_3 ho ⟨fun hc => ?_, fun _ => ?_⟩
      · rw [show (6 : Int32) = nI 6 by decide +kernel, zI_le (by decide) hi31] at hc; omega
      · rw [b1 a ha]
        refine ⟨fun n1 => ?_, fun e1 => ?_⟩
        · refine s_S_settleCube_25 ho ?_
          rw [b1 w hww]
          refine ⟨fun n2 => ⟨fun hc => absurd rfl hc, fun _ => ?_⟩, fun e2 => ⟨fun hc => absurd rfl hc, fun _ => ?_⟩⟩
          · refine s_S_settleCube_67 ho ?_
            rw [zI_cl hi31]
            refine ⟨hv, fun hc => absurd rfl hc, fun _ => ⟨fun hc => absurd rfl hc, fun _ => ⟨hv, nxt _ _ fun v hv => ?_⟩⟩⟩
            have : w / 2 ^ i % 2 = 0 := by omega
            rw [bt_0, bt_m1 hv]
            simp [sl_sc, n1, this]
          · refine s_S_settleCube_67 ho ?_
            rw [zI_cl hi31]
            refine ⟨hv, fun hc => absurd rfl hc, fun _ => ⟨fun _ => ⟨hv, nxt _ _ fun v hv => ?_⟩, fun hc => absurd hc (by decide)⟩⟩
            rw [bt_0, bt_m1 hv]
            simp [sl_sc, n1, e2]
        · refine s_S_settleCube_25 ho ?_
          refine ⟨fun n2 => ⟨fun _ => ?_, fun hc => absurd hc (by decide)⟩, fun e2 => ⟨fun _ => ?_, fun hc => absurd hc (by decide)⟩⟩
          · refine s_S_settleCube_67 ho ?_
            rw [zI_cl hi31]
            refine ⟨hv, fun _ => ⟨hv, nxt _ _ fun v hv => ?_⟩, fun hc => absurd hc (by decide)⟩
            rw [bt_0]
            simp [sl_sc, e1]
          · refine s_S_settleCube_67 ho ?_
            rw [zI_cl hi31]
            refine ⟨hv, fun _ => ⟨hv, nxt _ _ fun v hv => ?_⟩, fun hc => absurd hc (by decide)⟩
            rw [bt_0]
            simp [sl_sc, e1]
  exact loop 6 0 J (by omega) (fun _ _ => rfl) (fun k hk => absurd hk (Nat.not_lt_zero _))
theorem t_S_stateOf {l v : Nat} {g : Nat → Nat} {K : Int32 → sk_I → sk_J → Prop} (ho : sk_sg o) (hl : l < 26) (hv : v < 64) (hE : sl_E (J (o + 3) l) (J (o + 4) l) g) (hg : g v ≤ 2) (h : K (nI (g v)) I J) : sk_S Γ m_S_stateOf 0 0 [.ref o, .int (nI l), .int (nI v)] sk_gg I J (sk_Ki K) := by
  refine sk_spec (by decide) rfl (by exact Nat.le_of_ble_eq_true rfl) ?_
  refine s_S_stateOf_0 ho ?_
  have hvp : vp_in (nI l) 26 := vp_nat hl (by decide)
  rw [zI_cl (sl_lt31 (m := 27) (by omega) (by decide)), bt_test _ hv, bt_test _ hv, (hE v hv).1, (hE v hv).2, decide_eq_true_iff, decide_eq_true_iff]
  refine ⟨hvp, fun n1 => ⟨hvp, fun n0 => ⟨_, rfl, rfl, ?_⟩, fun e0 => ⟨_, rfl, rfl, ?_⟩⟩, fun e1 => ⟨_, rfl, rfl, ?_⟩⟩
  · have : g v = 2 := by omega
    rw [this] at h; exact h
  · rw [e0] at h; exact h
  · rw [e1] at h; exact h
theorem t_S_onesOf {l : Nat} {K : Int64 → sk_I → sk_J → Prop} (ho : sk_sg o) (hl : l < 26) (h : K (J (o + 3) l) I J) : sk_S Γ m_S_onesOf 0 0 [.ref o, .int (nI l)] sk_gg I J (sk_Kl K) := by
  refine sk_spec (by decide) rfl (by exact Nat.le_of_ble_eq_true rfl) ?_
  refine s_S_onesOf_0 ho ?_
  rw [zI_cl (sl_lt31 (m := 27) (by omega) (by decide))]
  exact ⟨vp_nat hl (by decide), _, rfl, rfl, h⟩
/-- two values that can't both be -/
def sl_cn (a b : Nat) : Bool := decide (a = 1 ∧ b = 0) || decide (a = 0 ∧ b = 1)
theorem sl_cn_bits {a b c d : Int64} {x y : Nat} (h1 : sl_E a b (fun _ => x)) (h2 : sl_E c d (fun _ => y)) : (lg_cmp ((a &&& d) ||| (b &&& c)) 0 = 0) ↔ ¬ sl_cn x y = true := by
  rw [lg_cmp_eq]
  have key : ∀ v, v < 64 → sk_bt ((a &&& d) ||| (b &&& c)) v = sl_cn x y := by
    intro v hv
    rw [bt_or, bt_and, bt_and, (h1 v hv).1, (h1 v hv).2, (h2 v hv).1, (h2 v hv).2]
    simp [sl_cn]
  constructor
  · intro he hc
    have := key 0 (by decide)
    rw [he, bt_0, hc] at this
    cases this
  · intro hn
    refine bt_ext fun v hv => ?_
    rw [key v hv, bt_0]
    simpa using hn
theorem t_S_isContraryTo {g g' : Nat → Nat} {K : Int32 → sk_I → sk_J → Prop} (hw : sl_wf T) (hr : sl_rc T I) (h1 : ∀ l, l < cN T → sl_E (J 29 l) (J 30 l) (fun _ => g l)) (h2 : ∀ l, l < cN T → sl_E (J 34 l) (J 35 l) (fun _ => g' l))
    (h : K (if (sl_ob T).any (fun x => sl_cn (g x) (g' x)) = true then 1 else 0) I J) : sk_S Γ m_S_isContraryTo 0 0 [.ref 26, .ref 31] sk_gg I J (sk_Ki K) := by
  refine sk_spec (by decide) rfl (by exact Nat.le_of_ble_eq_true rfl) ?_
  refine s_S_isContraryTo_0 ?_
  have hB := sl_B31 hw
  have hB12 := sl_ob_len hw
  have a4 : I 1 4 = nI (sl_ob T).length := hr.1.2.2.2.1
  have c6 : sl_pre (I 8) (sl_ob T) := hr.2.2.2.2.2.2
  have loop : ∀ d i, i + d = (sl_ob T).length → (∀ j, j < i → ∀ y, (sl_ob T)[j]? = some y → ¬ sl_cn (g y) (g' y) = true) → sk_W Γ m_S_isContraryTo 0 0 2 [(0, .ref 26), (1, .ref 31), (2, .int (nI i))] [] sk_gg I J 0 0 (sk_Ki K) := by
    intro d
    induction d with
    | zero =>
      intro i hi hno
      have hi : i = (sl_ob T).length := by omega
      subst hi
      refine s_S_isContraryTo_2 ⟨fun _ => ⟨_, rfl, rfl, ?_⟩, fun hc => absurd ?_ hc⟩
      · rw [if_neg] at h
        · exact h
        · intro ha
          obtain ⟨y, hy, e⟩ := List.any_eq_true.mp ha
          obtain ⟨j, hj⟩ := List.getElem?_of_mem hy
          exact hno j (List.getElem?_eq_some_iff.mp hj).1 y hj e
      · rw [a4]; exact (zI_le hB hB).mpr (Nat.le_refl _)
    | succ d ih =>
      intro i hi hno
      have hiO : i < (sl_ob T).length := by omega
      have hi31 : i < 2 ^ 31 := by omega
      have hm := List.getElem_mem hiO
      have hx := sl_ob_lt hw _ hm
      have hN := hw.1
      have hx31 : (sl_ob T)[i] < 2 ^ 31 := sl_lt31 (m := 27) (by omega) (by decide)
      have hv : vp_in (nI (sl_ob T)[i]) 26 := vp_nat (by omega) (by decide)
      refine s_S_isContraryTo_2 ⟨fun hc => ?_, fun _ => ?_⟩
      · rw [a4, zI_le hB hi31] at hc; omega
      · rw [zI_cl hi31, sl_pre_lt c6 hiO, zI_cl hx31, sl_cn_bits (h1 _ hx) (h2 _ hx), show nI i + 1 = nI (i + 1) from (nI_succ i).symm]
        refine ⟨vp_nat (by omega) (by decide), hv, hv, hv, hv, fun hn => ?_, fun hy => ⟨_, rfl, rfl, ?_⟩⟩
        · refine ih (i + 1) (by omega) (fun j hj y hy => ?_)
          by_cases hji : j = i
          · subst hji
            rw [List.getElem?_eq_getElem hiO] at hy
            cases hy
            exact hn
          · exact hno j (by omega) y hy
        · rw [if_pos (List.any_eq_true.mpr ⟨_, hm, Classical.byContradiction hy⟩)] at h
          exact h
  exact loop (sl_ob T).length 0 (by omega) (fun j hj => absurd hj (Nat.not_lt_zero _))
end SS
