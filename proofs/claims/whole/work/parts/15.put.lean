/-! The class's put, dropAll and lookThrough, in terms of writes up to the cut. -/
theorem ks_one : ¬ (1 : Int32) = 0 := by decide
theorem ks_write0 (p : Nat) (v : Int32) (hp : p < 7) (σ : kt_S) (X : ka_X) : kp_S_write (nI p) 0 v (ks_set σ X) = if X.2.1 = 0 then some (0, ks_set σ X) else some (1, ks_set σ (upd X.1 (6 * p + 0) v, ka_dec X.2.1, X.2.2 + 1)) := ks_write p 0 v hp (by omega) σ X
theorem ks_write1 (p : Nat) (v : Int32) (hp : p < 7) (σ : kt_S) (X : ka_X) : kp_S_write (nI p) 1 v (ks_set σ X) = if X.2.1 = 0 then some (0, ks_set σ X) else some (1, ks_set σ (upd X.1 (6 * p + 1) v, ka_dec X.2.1, X.2.2 + 1)) := ks_write p 1 v hp (by omega) σ X
theorem ks_write2 (p : Nat) (v : Int32) (hp : p < 7) (σ : kt_S) (X : ka_X) : kp_S_write (nI p) 2 v (ks_set σ X) = if X.2.1 = 0 then some (0, ks_set σ X) else some (1, ks_set σ (upd X.1 (6 * p + 2) v, ka_dec X.2.1, X.2.2 + 1)) := ks_write p 2 v hp (by omega) σ X
theorem ks_write3 (p : Nat) (v : Int32) (hp : p < 7) (σ : kt_S) (X : ka_X) : kp_S_write (nI p) 3 v (ks_set σ X) = if X.2.1 = 0 then some (0, ks_set σ X) else some (1, ks_set σ (upd X.1 (6 * p + 3) v, ka_dec X.2.1, X.2.2 + 1)) := ks_write p 3 v hp (by omega) σ X
theorem ks_write4 (p : Nat) (v : Int32) (hp : p < 7) (σ : kt_S) (X : ka_X) : kp_S_write (nI p) 4 v (ks_set σ X) = if X.2.1 = 0 then some (0, ks_set σ X) else some (1, ks_set σ (upd X.1 (6 * p + 4) v, ka_dec X.2.1, X.2.2 + 1)) := ks_write p 4 v hp (by omega) σ X
theorem ks_write5 (p : Nat) (v : Int32) (hp : p < 7) (σ : kt_S) (X : ka_X) : kp_S_write (nI p) 5 v (ks_set σ X) = if X.2.1 = 0 then some (0, ks_set σ X) else some (1, ks_set σ (upd X.1 (6 * p + 5) v, ka_dec X.2.1, X.2.2 + 1)) := ks_write p 5 v hp (by omega) σ X
def ks_E (f : Nat → Int32) (p : Nat) : Bool := decide (f (6 * p) = -1)
/-- the label that a new record gets -/
def ks_lab (f : Nat → Int32) (name : Int32) : Int32 := name + 16 * ((if 0 < ks_lb f 2147483647 7 then ks_lb f 2147483647 7 else 0) / 16 + 1)
def ks_opE (old : Option Nat) : List ((Nat → Int32) → (Nat → Int32)) := match old with
  | none => []
  | some q => [ks_er q]
/-- the writes of a put -/
def ks_ops (lab a b c d : Int32) (to : Nat) (old : Option Nat) : List ((Nat → Int32) → (Nat → Int32)) :=
  [fun f => upd f (6 * to + 0) lab, fun f => upd f (6 * to + 1) a, fun f => upd f (6 * to + 2) b, fun f => upd f (6 * to + 3) c, fun f => upd f (6 * to + 4) d, fun f => upd f (6 * to + 5) (ks_seal f to)] ++ ks_opE old
def ks_out (σ : kt_S) (r : Bool × ka_X) : Option (Int32 × kt_S) := some (if r.1 then 1 else 0, ks_set σ r.2)
def ks_old (x : Int32) : Option Nat := if x < 0 then none else some x.toNatClampNeg
theorem ks_neg1 : (-1 : Int32) < 0 := by decide
theorem ka_go {g : (Nat → Int32) → (Nat → Int32)} {gs : List ((Nat → Int32) → (Nat → Int32))} {f : Nat → Int32} {c w : Int32} (h : ¬ c = 0) : ka_seq (g :: gs) (f, c, w) = ka_seq gs (g f, ka_dec c, w + 1) := if_neg h
theorem ka_stop {g : (Nat → Int32) → (Nat → Int32)} {gs : List ((Nat → Int32) → (Nat → Int32))} {f : Nat → Int32} {c w : Int32} (h : c = 0) : ka_seq (g :: gs) (f, c, w) = (false, (f, c, w)) := if_pos h
theorem ka_nil {X : ka_X} : ka_seq [] X = (true, X) := rfl
theorem ks_outF (σ : kt_S) (X : ka_X) : ks_out σ (false, X) = some (0, ks_set σ X) := rfl
theorem ks_outT (σ : kt_S) (X : ka_X) : ks_out σ (true, X) = some (1, ks_set σ X) := rfl
theorem ks_opsN (lab a b c d : Int32) (to : Nat) : ks_ops lab a b c d to none = [fun f => upd f (6 * to + 0) lab, fun f => upd f (6 * to + 1) a, fun f => upd f (6 * to + 2) b, fun f => upd f (6 * to + 3) c, fun f => upd f (6 * to + 4) d, fun f => upd f (6 * to + 5) (ks_seal f to)] := rfl
theorem ks_opsS (lab a b c d : Int32) (to q : Nat) : ks_ops lab a b c d to (some q) = [fun f => upd f (6 * to + 0) lab, fun f => upd f (6 * to + 1) a, fun f => upd f (6 * to + 2) b, fun f => upd f (6 * to + 3) c, fun f => upd f (6 * to + 4) d, fun f => upd f (6 * to + 5) (ks_seal f to), ks_er q] := rfl
theorem ks_fin0 (s : kt_S) : kp_S_put_127 s = some (0, s) := rfl
theorem ks_fin1 (s : kt_S) : kp_S_put_123 s = some (1, s) := rfl
theorem ks_old_cases (f : Nat → Int32) (name : Int32) : (∃ q, q < 7 ∧ ks_pg f name = nI q ∧ ks_old (ks_pg f name) = some q ∧ (¬ f (6 * q) = -1) ∧ ks_nm (f (6 * q)) = name) ∨ (ks_pg f name = -1 ∧ ks_old (ks_pg f name) = none ∧ ∀ p, p < 7 → f (6 * p) = -1 ∨ ¬ ks_nm (f (6 * p)) = name) := by
  rcases ks_find_spec (fun p => decide (¬ f (6 * p) = -1 ∧ ks_nm (f (6 * p)) = name)) with ⟨q, hq, hq1, hq2, -⟩ | ⟨hq2, hq1⟩
  · left
    have hq3 : ks_pg f name = nI q := hq2
    have hq1 := of_decide_eq_true hq1
    refine ⟨q, hq, hq3, ?_, hq1.1, hq1.2⟩
    rw [hq3]
    unfold ks_old
    rw [if_neg (kn_nn (by omega)), kn_cl (by omega)]
  · right
    have hq3 : ks_pg f name = -1 := hq2
    refine ⟨hq3, ?_, fun p hp => ?_⟩
    · rw [hq3]
      unfold ks_old
      rw [if_pos ks_neg1]
    · have h := of_decide_eq_false (hq1 p hp)
      by_cases h1 : f (6 * p) = -1
      · exact Or.inl h1
      · exact Or.inr (fun h2 => h ⟨h1, h2⟩)
set_option maxHeartbeats 4000000 in
theorem ks_put (name a b c d : Int32) (σ : kt_S) (f : Nat → Int32) (c0 w : Int32) {to : Nat} (hto : to < 7) (hfe : ks_find (ks_E f) = nI to) : kp_S_put name a b c d (ks_set σ (f, c0, w)) = ks_out σ (ka_seq (ks_ops (ks_lab f name) a b c d to (ks_old (ks_pg f name))) (f, c0, w)) := by
  have hfe' : ks_find (fun p => decide (f (6 * p) = -1)) = nI to := hfe
  have key : ∀ (gs : List ((Nat → Int32) → (Nat → Int32))) (K : kt_S → Option (Int32 × kt_S)), (∀ f' c' w', K (ks_set σ (f', c', w')) = ks_out σ (ka_seq gs (f', c', w'))) →
      (Option.bind (kp_S_write (nI to) 0 (ks_lab f name) (ks_set σ (f, c0, w))) fun x4 => if x4.1 = 0 then kp_S_put_127 x4.2 else Option.bind (kp_S_write (nI to) 1 a x4.2) fun x5 => if x5.1 = 0 then kp_S_put_127 x5.2 else Option.bind (kp_S_write (nI to) 2 b x5.2) fun x6 => if x6.1 = 0 then kp_S_put_127 x6.2 else Option.bind (kp_S_write (nI to) 3 c x6.2) fun x7 => if x7.1 = 0 then kp_S_put_127 x7.2 else Option.bind (kp_S_write (nI to) 4 d x7.2) fun x8 => if x8.1 = 0 then kp_S_put_127 x8.2 else Option.bind (kp_S_sealOf (nI to) x8.2) fun x9 => Option.bind (kp_S_write (nI to) 5 x9.1 x9.2) fun x10 => if x10.1 = 0 then kp_S_put_127 x10.2 else K x10.2)
        = ks_out σ (ka_seq ([fun f1 => upd f1 (6 * to + 0) (ks_lab f name), fun f => upd f (6 * to + 1) a, fun f => upd f (6 * to + 2) b, fun f => upd f (6 * to + 3) c, fun f => upd f (6 * to + 4) d, fun f => upd f (6 * to + 5) (ks_seal f to)] ++ gs) (f, c0, w)) := by
    intro gs K hK
    rw [ks_write0 _ _ hto]
    dsimp only [List.cons_append, List.nil_append]
    by_cases h0 : c0 = 0
    · rw [if_pos h0, kt_bs, if_pos rfl, ka_stop h0, ks_outF, ks_fin0]
    rw [if_neg h0, kt_bs, if_neg ks_one, ka_go h0, ks_write1 _ _ hto]
    dsimp only
    by_cases h1 : ka_dec c0 = 0
    · rw [if_pos h1, kt_bs, if_pos rfl, ka_stop h1, ks_outF, ks_fin0]
    rw [if_neg h1, kt_bs, if_neg ks_one, ka_go h1, ks_write2 _ _ hto]
    dsimp only
    by_cases h2 : ka_dec (ka_dec c0) = 0
    · rw [if_pos h2, kt_bs, if_pos rfl, ka_stop h2, ks_outF, ks_fin0]
    rw [if_neg h2, kt_bs, if_neg ks_one, ka_go h2, ks_write3 _ _ hto]
    dsimp only
    by_cases h3 : ka_dec (ka_dec (ka_dec c0)) = 0
    · rw [if_pos h3, kt_bs, if_pos rfl, ka_stop h3, ks_outF, ks_fin0]
    rw [if_neg h3, kt_bs, if_neg ks_one, ka_go h3, ks_write4 _ _ hto]
    dsimp only
    by_cases h4 : ka_dec (ka_dec (ka_dec (ka_dec c0))) = 0
    · rw [if_pos h4, kt_bs, if_pos rfl, ka_stop h4, ks_outF, ks_fin0]
    rw [if_neg h4, kt_bs, if_neg ks_one, ka_go h4, ks_sealOf to hto, kt_bs]
    dsimp only
    rw [ks_write5 _ _ hto, ks_set3]
    dsimp only
    by_cases h5 : ka_dec (ka_dec (ka_dec (ka_dec (ka_dec c0)))) = 0
    · rw [if_pos h5, kt_bs, if_pos rfl, ka_stop h5, ks_outF, ks_fin0]
    rw [if_neg h5, kt_bs, if_neg ks_one, ka_go h5, hK]
  unfold kp_S_put kp_S_put_0
  rw [ks_pageOf', kt_bs]
  dsimp only
  rw [ks_firstErased, kt_bs, ks_set3]
  dsimp only
  rw [hfe', ks_labelBelow, kt_bs, ks_set3]
  dsimp only
  rcases ks_old_cases f name with ⟨q, hq, h1, h2, -⟩ | ⟨h1, h2, -⟩
  · rw [h2, h1, ks_opsS]
    refine (key [ks_er q] (fun s => if nI q < 0 then kp_S_put_123 s else Option.bind (kp_S_erase (nI q) s) fun x11 => if x11.1 = 0 then kp_S_put_127 x11.2 else kp_S_put_123 x11.2) ?_)
    intro f' c' w'
    rw [if_neg (kn_nn (by omega)), ks_erase q hq]
    dsimp only
    by_cases h6 : c' = 0
    · rw [if_pos h6, kt_bs, if_pos rfl, ka_stop h6, ks_outF, ks_fin0]
    · rw [if_neg h6, kt_bs, if_neg ks_one, ka_go h6, ka_nil, ks_outT, ks_fin1]
  · rw [h2, h1, ks_opsN]
    refine (key [] (fun s => if (-1 : Int32) < 0 then kp_S_put_123 s else Option.bind (kp_S_erase (-1) s) fun x11 => if x11.1 = 0 then kp_S_put_127 x11.2 else kp_S_put_123 x11.2) ?_)
    intro f' c' w'
    rw [if_pos ks_neg1, ka_nil, ks_outT, ks_fin1]
