/-! What each method does, as a function: made by wip/whole/gen.py out of javap's listing. -/
def f_T_isRow (a1 : Int32) : Option Int32 :=
  (if (a1 : Int32) < (0 : Int32) then some 0 else (if (64 : Int32) ≤ (a1 : Int32) then some 0 else some 1))

def f_T_isColumn (a1 : Int32) : Option Int32 :=
  (if (a1 : Int32) < (0 : Int32) then some 0 else (if (8 : Int32) ≤ (a1 : Int32) then some 0 else some 1))

def f_T_isTime (a1 : Int32) : Option Int32 :=
  (if (a1 : Int32) < (0 : Int32) then some 0 else (if (10000 : Int32) ≤ (a1 : Int32) then some 0 else some 1))

def f_B_takes (N : Nat) (σ : x_T) (a1 : Int32) : Option Int32 :=
  (if (x_S σ 21 : Int32) = (0 : Int32) then some 1 else (if (4 : Int32) ≤ (x_S σ 21 : Int32) then some 0 else (if (x_S σ 20 : Int32) = (a1 : Int32) then some 1 else some 0)))

def f_B_addChange (N : Nat) (σ : x_T) (a1 : Int32) (a2 : Int32) (a3 : Int32) : Option x_T :=
  q_let (x_sS σ 20 a1) fun s1 => q_gd (q_in (x_S s1 21) 4) <| q_let (x_sI s1 6 ((x_S s1 21 : Int32).toNatClampNeg) a2) fun s3 => q_gd (q_in (x_S s3 21) 4) <| q_let (x_sI s3 7 ((x_S s3 21 : Int32).toNatClampNeg) a3) fun s5 => some s5

def f_B_addCell (N : Nat) (σ : x_T) (a1 : Int32) (a2 : Int32) (a3 : Int32) (a4 : Int32) : Option x_T :=
  (f_B_addChange N σ a1 a2 a3).bind fun s2 => q_gd (q_in (x_S s2 21) 4) <| q_let (x_sI s2 8 ((x_S s2 21 : Int32).toNatClampNeg) a4) fun s4 => q_gd (q_in (x_S s4 21) 4) <| q_let (x_sI s4 9 ((x_S s4 21 : Int32).toNatClampNeg) (vp_nar .boolean 0)) fun s6 => q_let (x_sS s6 21 ((x_S s6 21) + 1)) fun s7 => some s7

def f_T_put (N : Nat) (σ : x_T) (a1 : Int32) (a2 : Int32) (a3 : Int32) (a4 : Int32) : Option (Int32 × x_T) :=
  (f_T_isRow a1).bind fun r2 => (if (r2 : Int32) = (0 : Int32) then some (0, σ) else (f_T_isColumn a2).bind fun r4 => (if (r4 : Int32) = (0 : Int32) then some (0, σ) else (f_T_isTime a3).bind fun r6 => (if (r6 : Int32) = (0 : Int32) then some (0, σ) else (f_B_takes N σ a1).bind fun r8 => (if (r8 : Int32) = (0 : Int32) then some (0, σ) else (f_B_addCell N σ a1 a2 a3 a4).bind fun s10 => some (1, s10)))))

def f_T_isErasable (a1 : Int32) (a2 : Int32) : Option Int32 :=
  (if (a1 : Int32) = ((-1) : Int32) then (if (a2 : Int32) = ((-1) : Int32) then some 1 else some 0) else (f_T_isColumn a1).bind fun r2 => (if (r2 : Int32) = (0 : Int32) then some 0 else (if (a2 : Int32) = ((-1) : Int32) then some 1 else (f_T_isTime a2).bind fun r4 => (if (r4 : Int32) = (0 : Int32) then some 0 else some 1))))

def f_B_addErasure (N : Nat) (σ : x_T) (a1 : Int32) (a2 : Int32) (a3 : Int32) : Option x_T :=
  (f_B_addChange N σ a1 a2 a3).bind fun s2 => q_gd (q_in (x_S s2 21) 4) <| q_let (x_sI s2 8 ((x_S s2 21 : Int32).toNatClampNeg) 0) fun s4 => q_gd (q_in (x_S s4 21) 4) <| q_let (x_sI s4 9 ((x_S s4 21 : Int32).toNatClampNeg) (vp_nar .boolean 1)) fun s6 => q_let (x_sS s6 21 ((x_S s6 21) + 1)) fun s7 => some s7

def f_T_erase (N : Nat) (σ : x_T) (a1 : Int32) (a2 : Int32) (a3 : Int32) : Option (Int32 × x_T) :=
  (f_T_isRow a1).bind fun r2 => (if (r2 : Int32) = (0 : Int32) then some (0, σ) else (f_T_isErasable a2 a3).bind fun r4 => (if (r4 : Int32) = (0 : Int32) then some (0, σ) else (f_B_takes N σ a1).bind fun r6 => (if (r6 : Int32) = (0 : Int32) then some (0, σ) else (f_B_addErasure N σ a1 a2 a3).bind fun s8 => some (1, s8))))

def f_B_setExpectation (N : Nat) (σ : x_T) (a1 : Int32) (a2 : Int32) (a3 : Int32) (a4 : Int32) : Option x_T :=
  q_let (x_sS σ 26 1) fun s1 => q_let (x_sS s1 27 a1) fun s2 => q_let (x_sS s2 28 a2) fun s3 => q_gd (q_bz a3) <| q_let (x_sS s3 29 a3) fun s5 => q_let (x_sS s5 30 a4) fun s6 => some s6

def f_T_expect (N : Nat) (σ : x_T) (a1 : Int32) (a2 : Int32) (a3 : Int32) (a4 : Int32) : Option (Int32 × x_T) :=
  (f_T_isRow a1).bind fun r2 => (if (r2 : Int32) = (0 : Int32) then some (0, σ) else (f_T_isColumn a2).bind fun r4 => (if (r4 : Int32) = (0 : Int32) then some (0, σ) else (f_B_setExpectation N σ a1 a2 a3 a4).bind fun s6 => some (1, s6)))

def f_B_empty (N : Nat) (σ : x_T) : Option x_T :=
  q_let (x_sS σ 21 0) fun s1 => q_let (x_sS s1 26 0) fun s2 => some s2

def f_T_crash (N : Nat) (σ : x_T) : Option x_T :=
  (f_B_empty N σ).bind fun s2 => some s2

def f_T_indexOfRow_L2 (N : Nat) (σ : x_T) (u1 : Int32) (K : Int32 → Option Int32) : Nat → Int32 → Option Int32
  | 0, _ => none
  | n + 1, v2 =>
    (if (x_S σ 4 : Int32) ≤ (v2 : Int32) then K v2 else q_gd (q_in v2 247) <| (q_om (x_E σ ((v2 : Int32).toNatClampNeg)) none (fun k2 => q_gd (q_lt k2 (x_N σ)) <| (if (u1 : Int32) ≤ (x_P σ k2 0 : Int32) then K v2 else f_T_indexOfRow_L2 N σ u1 K n (v2 + 1)))))
def f_T_indexOfRow (N : Nat) (σ : x_T) (a1 : Int32) : Option Int32 :=
  f_T_indexOfRow_L2 N σ a1 (fun v2 => some v2) N 0

def f_T_isOldCell (N : Nat) (σ : x_T) (a1 : Nat) : Option Int32 :=
  q_gd (q_lt a1 (x_N σ)) <| (if (x_P σ a1 4 : Int32) = (0 : Int32) then q_gd (q_in (x_P σ a1 2) 2) <| (if (x_I σ 2 ((x_P σ a1 2 : Int32).toNatClampNeg) : Int32) = (0 : Int32) then some 0 else (if (x_S σ 2 : Int32) < ((x_P σ a1 3) + (x_I σ 2 ((x_P σ a1 2 : Int32).toNatClampNeg)) : Int32) then some 0 else some 1)) else some 0)

def f_T_isLive (N : Nat) (σ : x_T) (a1 : Nat) : Option Int32 :=
  q_gd (q_lt a1 (x_N σ)) <| (if (x_P σ a1 4 : Int32) = (0 : Int32) then (if (x_P σ a1 10 : Int32) = (0 : Int32) then (f_T_isOldCell N σ a1).bind fun r3 => (if (r3 : Int32) = (0 : Int32) then some 1 else some 0) else some 0) else some 0)

def f_T_liveCell_L10 (N : Nat) (σ : x_T) (u1 : Int32) (u2 : Int32) (u3 : Int32) (u4 : Int32) (K : Option (Option Nat)) : Nat → Int32 → Int32 → Option (Option Nat)
  | 0, _, _ => none
  | n + 1, v5, v6 =>
    (if (x_S σ 4 : Int32) ≤ (v6 : Int32) then K else q_gd (q_in v6 247) <| (q_om (x_E σ ((v6 : Int32).toNatClampNeg)) none (fun k4 => q_gd (q_lt k4 (x_N σ)) <| (if (x_P σ k4 0 : Int32) = (u1 : Int32) then q_gd (q_in v6 247) <| (q_om (x_E σ ((v6 : Int32).toNatClampNeg)) none (fun k7 => q_gd (q_lt k7 (x_N σ)) <| (if (x_P σ k7 1 : Int32) = (u2 : Int32) then (if (u3 : Int32) < (x_P σ k7 3 : Int32) then f_T_liveCell_L10 N σ u1 u2 u3 u4 K n v5 (v6 + 1) else (f_T_isLive N σ k7).bind fun r10 => (if (r10 : Int32) = (0 : Int32) then f_T_liveCell_L10 N σ u1 u2 u3 u4 K n v5 (v6 + 1) else (if (v5 : Int32) = (u4 : Int32) then some (some k7) else f_T_liveCell_L10 N σ u1 u2 u3 u4 K n (v5 + 1) (v6 + 1)))) else f_T_liveCell_L10 N σ u1 u2 u3 u4 K n v5 (v6 + 1)))) else K))))
def f_T_liveCell (N : Nat) (σ : x_T) (a1 : Int32) (a2 : Int32) (a3 : Int32) (a4 : Int32) : Option (Option Nat) :=
  (f_T_indexOfRow N σ a1).bind fun r2 => f_T_liveCell_L10 N σ a1 a2 a3 a4 (some none) N 0 r2

def f_T_isExpectationMet (N : Nat) (σ : x_T) : Option Int32 :=
  (if (x_S σ 26 : Int32) = (0 : Int32) then some 1 else (f_T_liveCell N σ (x_S σ 27) (x_S σ 28) 10000 0).bind fun r2 => (q_om r2 (if (x_S σ 29 : Int32) = (0 : Int32) then some 1 else some 0) (fun k3 => (if (x_S σ 29 : Int32) = (0 : Int32) then some 0 else q_gd (q_lt k3 (x_N σ)) <| (if (x_P σ k3 5 : Int32) = (x_S σ 30 : Int32) then some 1 else some 0)))))

def f_T_familyOf (a1 : Int32) : Option Int32 :=
  (if (4 : Int32) ≤ (a1 : Int32) then some 1 else some 0)

def f_E_begin (N : Nat) (σ : x_T) (k0 : Nat) (a1 : Int32) (a2 : Int32) (a3 : Int32) (a4 : Int32) (a5 : Int32) : Option x_T :=
  q_gd (q_lt k0 (x_N σ)) <| q_let (x_sP σ k0 0 a1) fun s2 => q_let (x_sP s2 k0 1 a2) fun s4 => (f_T_familyOf a2).bind fun r7 => q_let (x_sP s4 k0 2 r7) fun s8 => q_let (x_sP s8 k0 3 a3) fun s10 => q_gd (q_bz a4) <| q_let (x_sP s10 k0 4 a4) fun s13 => q_let (x_sP s13 k0 5 0) fun s15 => q_let (x_sP s15 k0 6 a5) fun s17 => (if (a3 : Int32) = ((-1) : Int32) then q_let (x_sP s17 k0 7 (((((a1 * 9) + a2) + 1) * 10001) + 0)) fun s29 => q_let (x_sP s29 k0 8 (-1)) fun s31 => q_let (x_sP s31 k0 9 0) fun s33 => q_let (x_sP s33 k0 10 0) fun s35 => q_let (x_sP s35 k0 11 0) fun s37 => some s37 else q_let (x_sP s17 k0 7 (((((a1 * 9) + a2) + 1) * 10001) + (10000 - a3))) fun s19 => q_let (x_sP s19 k0 8 (-1)) fun s21 => q_let (x_sP s21 k0 9 0) fun s23 => q_let (x_sP s23 k0 10 0) fun s25 => q_let (x_sP s25 k0 11 0) fun s27 => some s27)

def f_E_covers (N : Nat) (σ : x_T) (k0 : Nat) (a1 : Nat) : Option Int32 :=
  q_gd (q_lt k0 (x_N σ)) <| q_gd (q_lt a1 (x_N σ)) <| (if (x_P σ k0 6 : Int32) ≤ (x_P σ a1 6 : Int32) then some 0 else (if (x_P σ k0 0 : Int32) = (x_P σ a1 0 : Int32) then (if (x_P σ k0 1 : Int32) = ((-1) : Int32) then some 1 else (if (x_P σ k0 1 : Int32) = (x_P σ a1 1 : Int32) then (if (x_P σ k0 3 : Int32) = ((-1) : Int32) then some 1 else (if (x_P σ k0 3 : Int32) = (x_P σ a1 3 : Int32) then some 1 else some 0)) else some 0)) else some 0))

def f_T_insert_L5 (N : Nat) (u1 : Nat) (K : Int32 → x_T → Option x_T) : Nat → Int32 → x_T → Option x_T
  | 0, _, _ => none
  | n + 1, v2, σ =>
    (if (v2 : Int32) ≤ (0 : Int32) then K v2 σ else q_gd (q_in (v2 - 1) 247) <| (q_om (x_E σ ((v2 - 1 : Int32).toNatClampNeg)) none (fun k2 => q_gd (q_lt k2 (x_N σ)) <| q_gd (q_lt u1 (x_N σ)) <| (if (x_P σ k2 7 : Int32) < (x_P σ u1 7 : Int32) then K v2 σ else q_gd (q_in (v2 - 1) 247) <| (q_om (x_E σ ((v2 - 1 : Int32).toNatClampNeg)) none (fun k6 => q_gd (q_lt k6 (x_N σ)) <| q_gd (q_in v2 247) <| q_let (x_sE σ ((v2 : Int32).toNatClampNeg) k6) fun s9 => f_T_insert_L5 N u1 K n (v2 + (-1)) s9))))))
def f_T_insert (N : Nat) (σ : x_T) (a1 : Nat) : Option x_T :=
  f_T_insert_L5 N a1 (fun v2 t13 => q_gd (q_lt a1 (x_N t13)) <| q_gd (q_in v2 247) <| q_let (x_sE t13 ((v2 : Int32).toNatClampNeg) a1) fun s16 => q_let (x_sS s16 4 ((x_S s16 4) + 1)) fun s18 => some s18) N (x_S σ 4) σ

def f_T_tabletOf_L2 (N : Nat) (σ : x_T) (u1 : Int32) (K : Int32 → Option Int32) : Nat → Int32 → Option Int32
  | 0, _ => none
  | n + 1, v2 =>
    (if (x_S σ 7 : Int32) ≤ (v2 + 1 : Int32) then K v2 else q_gd (q_in (v2 + 1) 9) <| (if (u1 : Int32) < (x_I σ 4 ((v2 + 1 : Int32).toNatClampNeg) : Int32) then K v2 else f_T_tabletOf_L2 N σ u1 K n (v2 + 1)))
def f_T_tabletOf (N : Nat) (σ : x_T) (a1 : Int32) : Option Int32 :=
  f_T_tabletOf_L2 N σ a1 (fun v2 => some v2) N 0

def f_T_endOf (N : Nat) (σ : x_T) (a1 : Int32) : Option Int32 :=
  q_gd (q_in (a1 + 1) 9) <| (f_T_indexOfRow N σ (x_I σ 4 ((a1 + 1 : Int32).toNatClampNeg))).bind fun r3 => some r3

def f_T_startOf (N : Nat) (σ : x_T) (a1 : Int32) : Option Int32 :=
  q_gd (q_in a1 9) <| (f_T_indexOfRow N σ (x_I σ 4 ((a1 : Int32).toNatClampNeg))).bind fun r3 => some r3

def f_T_entriesIn_L16 (N : Nat) (σ : x_T) (u2 : Int32) (u4 : Int32) (K : Int32 → Option Int32) : Nat → Int32 → Int32 → Option Int32
  | 0, _, _ => none
  | n + 1, v3, v5 =>
    (if (u4 : Int32) ≤ (v5 : Int32) then K v3 else q_gd (q_in v5 247) <| (q_om (x_E σ ((v5 : Int32).toNatClampNeg)) none (fun k6 => q_gd (q_lt k6 (x_N σ)) <| (if (x_P σ k6 8 : Int32) = (u2 : Int32) then f_T_entriesIn_L16 N σ u2 u4 K n (v3 + 1) (v5 + 1) else f_T_entriesIn_L16 N σ u2 u4 K n v3 (v5 + 1)))))
def f_T_entriesIn (N : Nat) (σ : x_T) (a1 : Int32) (a2 : Int32) : Option Int32 :=
  (f_T_endOf N σ a1).bind fun r2 => (f_T_startOf N σ a1).bind fun r4 => f_T_entriesIn_L16 N σ a2 r2 (fun v3 => some v3) N 0 r4

def f_T_tableCount_L15 (N : Nat) (σ : x_T) (u3 : Int32) (K : Int32 → Option Int32) : Nat → Int32 → Int32 → Option Int32
  | 0, _, _ => none
  | n + 1, v2, v4 =>
    (if (u3 : Int32) ≤ (v4 : Int32) then K v2 else q_gd (q_in v4 247) <| (q_om (x_E σ ((v4 : Int32).toNatClampNeg)) none (fun k6 => q_gd (q_lt k6 (x_N σ)) <| f_T_tableCount_L15 N σ u3 K n (if (v2 : Int32) < (x_P σ k6 8 : Int32) then (x_P σ k6 8 : Int32) else (v2 : Int32)) (v4 + 1))))
def f_T_tableCount (N : Nat) (σ : x_T) (a1 : Int32) : Option Int32 :=
  (f_T_endOf N σ a1).bind fun r2 => (f_T_startOf N σ a1).bind fun r4 => f_T_tableCount_L15 N σ r2 (fun v2 => some (v2 + 1)) N (-1) r4

def f_T_flushTablet_L27 (N : Nat) (u2 : Int32) (u3 : Int32) (u4 : Int32) (K : x_T → Option (Int32 × x_T)) : Nat → Int32 → x_T → Option (Int32 × x_T)
  | 0, _, _ => none
  | n + 1, v5, σ =>
    (if (u4 : Int32) ≤ (v5 : Int32) then K σ else q_gd (q_in v5 247) <| (q_om (x_E σ ((v5 : Int32).toNatClampNeg)) none (fun k10 => q_gd (q_lt k10 (x_N σ)) <| (if (x_P σ k10 8 : Int32) = ((-1) : Int32) then q_gd (q_in v5 247) <| (q_om (x_E σ ((v5 : Int32).toNatClampNeg)) none (fun k13 => q_gd (q_lt k13 (x_N σ)) <| q_let (x_sP σ k13 8 u3) fun s15 => f_T_flushTablet_L27 N u2 u3 u4 K n (v5 + 1) s15)) else f_T_flushTablet_L27 N u2 u3 u4 K n (v5 + 1) σ))))
def f_T_flushTablet (N : Nat) (σ : x_T) (a1 : Int32) : Option (Int32 × x_T) :=
  (f_T_entriesIn N σ a1 (-1)).bind fun r2 => (f_T_tableCount N σ a1).bind fun r4 => (f_T_endOf N σ a1).bind fun r6 => (f_T_startOf N σ a1).bind fun r8 => f_T_flushTablet_L27 N r2 r4 r6 (fun t18 => some (r2, t18)) N r8 σ

def f_T_tear (N : Nat) (σ : x_T) : Option x_T :=
  q_let (x_sS σ 9 1) fun s1 => some s1

def f_T_tick (N : Nat) (σ : x_T) (a1 : Int32) : Option (Int32 × x_T) :=
  (if (a1 : Int32) < (0 : Int32) then some (x_S σ 2, σ) else (if (5000 : Int32) < (a1 : Int32) then some (x_S σ 2, σ) else q_let (x_sS σ 2 ((x_S σ 2) + a1)) fun s1 => some (x_S s1 2, s1)))

def f_S_begin_L2 (N : Nat) (u1 : Int32) (K : x_T → Option x_T) : Nat → Int32 → x_T → Option x_T
  | 0, _, _ => none
  | n + 1, v2, σ =>
    (if (x_S σ 41 : Int32) ≤ (v2 : Int32) then K σ else q_gd (q_in v2 247) <| q_let (x_sL σ 12 ((v2 : Int32).toNatClampNeg) 0) fun s2 => q_gd (q_in v2 247) <| q_let (x_sI s2 13 ((v2 : Int32).toNatClampNeg) 0) fun s4 => q_gd (q_in v2 247) <| q_let (x_sI s4 14 ((v2 : Int32).toNatClampNeg) 0) fun s6 => f_S_begin_L2 N u1 K n (v2 + 1) s6)
def f_S_begin (N : Nat) (σ : x_T) (a1 : Int32) : Option x_T :=
  f_S_begin_L2 N a1 (fun t7 => q_let (x_sS t7 40 a1) fun s8 => q_let (x_sS s8 41 0) fun s9 => some s9) N 0 σ

def f_S_bitsOf (a1 : Int32) : Option Int64 :=
  some (((1 : Int64) <<< ((((7 * a1) + 3) - ((7 * a1) + 3) / 64 * 64 : Int32).toInt64 &&& 63)) ||| ((1 : Int64) <<< ((((13 * a1) + 29) - ((13 * a1) + 29) / 64 * 64 : Int32).toInt64 &&& 63)))

def f_S_pass (N : Nat) (σ : x_T) (a1 : Int32) (a2 : Int32) : Option x_T :=
  (if (a1 : Int32) < (0 : Int32) then some σ else (if (a1 : Int32) < (247 : Int32) then q_let (x_sS σ 41 (if (x_S σ 41 : Int32) < (a1 + 1 : Int32) then (a1 + 1 : Int32) else (x_S σ 41 : Int32))) fun s1 => q_gd (q_in a1 247) <| (f_S_bitsOf a2).bind fun r4 => q_gd (q_in a1 247) <| q_let (x_sL s1 12 ((a1 : Int32).toNatClampNeg) ((x_L s1 12 ((a1 : Int32).toNatClampNeg)) ||| r4)) fun s6 => (if (x_S s6 40 : Int32) ≤ (a2 : Int32) then (if (a2 : Int32) = (x_S s6 40 : Int32) then q_gd (q_in a1 247) <| q_gd (q_in a1 247) <| q_let (x_sI s6 14 ((a1 : Int32).toNatClampNeg) ((x_I s6 14 ((a1 : Int32).toNatClampNeg)) + 1)) fun s9 => some s9 else some s6) else q_gd (q_in a1 247) <| q_gd (q_in a1 247) <| q_let (x_sI s6 13 ((a1 : Int32).toNatClampNeg) ((x_I s6 13 ((a1 : Int32).toNatClampNeg)) + 1)) fun s12 => some s12) else some σ))

def f_S_blocksOfRow (N : Nat) (σ : x_T) (a1 : Int32) : Option Int32 :=
  q_gd (q_in a1 247) <| q_gd (q_in a1 247) <| q_gd (q_in a1 247) <| some ((((((x_I σ 13 ((a1 : Int32).toNatClampNeg)) + (x_I σ 14 ((a1 : Int32).toNatClampNeg))) - 1) / 4) - ((x_I σ 13 ((a1 : Int32).toNatClampNeg)) / 4)) + 1)

def f_S_blocksLookedAt_L13 (N : Nat) (σ : x_T) (u1 : Int64) (K : Int32 → Option Int32) : Nat → Int32 → Int32 → Option Int32
  | 0, _, _ => none
  | n + 1, v3, v4 =>
    (if (x_S σ 41 : Int32) ≤ (v4 : Int32) then K v3 else q_gd (q_in v4 247) <| (if (lg_cmp ((x_L σ 12 ((v4 : Int32).toNatClampNeg)) &&& u1) u1 : Int32) = (0 : Int32) then q_gd (q_in v4 247) <| (if (x_I σ 14 ((v4 : Int32).toNatClampNeg) : Int32) = (0 : Int32) then f_S_blocksLookedAt_L13 N σ u1 K n (v3 + 1) (v4 + 1) else (f_S_blocksOfRow N σ v4).bind fun r6 => f_S_blocksLookedAt_L13 N σ u1 K n (v3 + r6) (v4 + 1)) else f_S_blocksLookedAt_L13 N σ u1 K n v3 (v4 + 1)))
def f_S_blocksLookedAt (N : Nat) (σ : x_T) : Option Int32 :=
  (f_S_bitsOf (x_S σ 40)).bind fun r2 => f_S_blocksLookedAt_L13 N σ r2 (fun v3 => some v3) N 0 0

def f_T_lookFor_L27 (N : Nat) (u3 : Int32) (K : x_T → Option x_T) : Nat → Int32 → x_T → Option x_T
  | 0, _, _ => none
  | n + 1, v4, σ =>
    (if (u3 : Int32) ≤ (v4 : Int32) then K σ else q_gd (q_in v4 247) <| (q_om (x_E σ ((v4 : Int32).toNatClampNeg)) none (fun k10 => q_gd (q_lt k10 (x_N σ)) <| (if (x_P σ k10 8 : Int32) = ((-1) : Int32) then f_T_lookFor_L27 N u3 K n (v4 + 1) σ else q_gd (q_in v4 247) <| (q_om (x_E σ ((v4 : Int32).toNatClampNeg)) none (fun k13 => q_gd (q_lt k13 (x_N σ)) <| q_gd (q_in v4 247) <| (q_om (x_E σ ((v4 : Int32).toNatClampNeg)) none (fun k16 => q_gd (q_lt k16 (x_N σ)) <| (f_S_pass N σ (x_P σ k13 8) (x_P σ k16 0)).bind fun s19 => f_T_lookFor_L27 N u3 K n (v4 + 1) s19))))))))
def f_T_lookFor (N : Nat) (σ : x_T) (a1 : Int32) : Option x_T :=
  (f_T_tabletOf N σ a1).bind fun r2 => (f_T_endOf N σ r2).bind fun r4 => (f_S_begin N σ a1).bind fun s6 => (f_T_startOf N s6 r2).bind fun r8 => f_T_lookFor_L27 N r4 (fun t20 => (f_S_blocksLookedAt N t20).bind fun r22 => q_let (x_sS t20 13 ((x_S t20 13) + r22)) fun s23 => some s23) N r8 s6

def f_T_packed (a1 : Int32) (a2 : Int32) : Option Int64 :=
  some ((4294967296 * ((a1 : Int32).toInt64)) + (((a2 : Int32).toInt64) &&& 4294967295))

def f_T_get (N : Nat) (σ : x_T) (a1 : Int32) (a2 : Int32) (a3 : Int32) (a4 : Int32) : Option (Int64 × x_T) :=
  (f_T_isRow a1).bind fun r2 => (if (r2 : Int32) = (0 : Int32) then some (-1, σ) else (f_T_isColumn a2).bind fun r4 => (if (r4 : Int32) = (0 : Int32) then some (-1, σ) else (f_T_lookFor N σ a1).bind fun s6 => (f_T_liveCell N s6 a1 a2 a3 a4).bind fun r8 => (q_om r8 (some (-1, s6)) (fun k9 => q_gd (q_lt k9 (x_N s6)) <| (f_T_packed (x_P s6 k9 3) (x_P s6 k9 5)).bind fun r12 => some (r12, s6)))))

def f_T_addToResult (N : Nat) (σ : x_T) (a1 : Nat) : Option x_T :=
  (if (247 : Int32) ≤ (x_S σ 11 : Int32) then some σ else q_gd (q_lt a1 (x_N σ)) <| (f_T_packed (((((x_P σ a1 0) * 8) + (x_P σ a1 1)) * 10000) + (x_P σ a1 3)) (x_P σ a1 5)).bind fun r3 => q_gd (q_in (x_S σ 11) 247) <| q_let (x_sL σ 10 ((x_S σ 11 : Int32).toNatClampNeg) r3) fun s5 => q_let (x_sS s5 11 ((x_S s5 11) + 1)) fun s7 => some s7)

def f_T_scan_L33 (N : Nat) (u3 : Int32) (u4 : Int32) (u5 : Int32) (u6 : Int32) (u7 : Int32) (K : x_T → Option (Int32 × x_T)) : Nat → Int32 → x_T → Option (Int32 × x_T)
  | 0, _, _ => none
  | n + 1, v8, σ =>
    (if (u7 : Int32) < (v8 : Int32) then K σ else (f_T_lookFor N σ v8).bind fun s2 => f_T_scan_L33 N u3 u4 u5 u6 u7 K n (v8 + 1) s2)
def f_T_scan_L60 (N : Nat) (u3 : Int32) (u4 : Int32) (u5 : Int32) (u6 : Int32) (u7 : Int32) (K : x_T → Option (Int32 × x_T)) : Nat → Int32 → x_T → Option (Int32 × x_T)
  | 0, _, _ => none
  | n + 1, v8, σ =>
    (if (x_S σ 4 : Int32) ≤ (v8 : Int32) then K σ else q_gd (q_in v8 247) <| (q_om (x_E σ ((v8 : Int32).toNatClampNeg)) none (fun k6 => q_gd (q_lt k6 (x_N σ)) <| (if (x_P σ k6 0 : Int32) < (u6 : Int32) then f_T_scan_L60 N u3 u4 u5 u6 u7 K n (v8 + 1) σ else (if (u7 : Int32) < (x_P σ k6 0 : Int32) then f_T_scan_L60 N u3 u4 u5 u6 u7 K n (v8 + 1) σ else (if (x_P σ k6 3 : Int32) < (u4 : Int32) then f_T_scan_L60 N u3 u4 u5 u6 u7 K n (v8 + 1) σ else (if (u5 : Int32) < (x_P σ k6 3 : Int32) then f_T_scan_L60 N u3 u4 u5 u6 u7 K n (v8 + 1) σ else (if (u3 : Int32) = ((-1) : Int32) then (f_T_isLive N σ k6).bind fun r9 => (if (r9 : Int32) = (0 : Int32) then f_T_scan_L60 N u3 u4 u5 u6 u7 K n (v8 + 1) σ else (f_T_addToResult N σ k6).bind fun s11 => f_T_scan_L60 N u3 u4 u5 u6 u7 K n (v8 + 1) s11) else (if (x_P σ k6 1 : Int32) = (u3 : Int32) then (f_T_isLive N σ k6).bind fun r13 => (if (r13 : Int32) = (0 : Int32) then f_T_scan_L60 N u3 u4 u5 u6 u7 K n (v8 + 1) σ else (f_T_addToResult N σ k6).bind fun s15 => f_T_scan_L60 N u3 u4 u5 u6 u7 K n (v8 + 1) s15) else f_T_scan_L60 N u3 u4 u5 u6 u7 K n (v8 + 1) σ)))))))))
def f_T_scan (N : Nat) (σ : x_T) (a1 : Int32) (a2 : Int32) (a3 : Int32) (a4 : Int32) (a5 : Int32) : Option (Int32 × x_T) :=
  (if (a3 : Int32) = ((-1) : Int32) then f_T_scan_L33 N a3 a4 a5 (if (a1 : Int32) < (0 : Int32) then (0 : Int32) else (a1 : Int32)) (if (63 : Int32) < (a2 : Int32) then (63 : Int32) else (a2 : Int32)) (fun t3 => q_let (x_sS t3 11 0) fun s4 => f_T_scan_L60 N a3 a4 a5 (if (a1 : Int32) < (0 : Int32) then (0 : Int32) else (a1 : Int32)) (if (63 : Int32) < (a2 : Int32) then (63 : Int32) else (a2 : Int32)) (fun t16 => some (x_S t16 11, t16)) N 0 s4) N (if (a1 : Int32) < (0 : Int32) then (0 : Int32) else (a1 : Int32)) σ else (f_T_isColumn a3).bind fun r18 => (if (r18 : Int32) = (0 : Int32) then some ((-1), σ) else f_T_scan_L33 N a3 a4 a5 (if (a1 : Int32) < (0 : Int32) then (0 : Int32) else (a1 : Int32)) (if (63 : Int32) < (a2 : Int32) then (63 : Int32) else (a2 : Int32)) (fun t21 => q_let (x_sS t21 11 0) fun s22 => f_T_scan_L60 N a3 a4 a5 (if (a1 : Int32) < (0 : Int32) then (0 : Int32) else (a1 : Int32)) (if (63 : Int32) < (a2 : Int32) then (63 : Int32) else (a2 : Int32)) (fun t34 => some (x_S t34 11, t34)) N 0 s22) N (if (a1 : Int32) < (0 : Int32) then (0 : Int32) else (a1 : Int32)) σ))

def f_T_found (N : Nat) (σ : x_T) (a1 : Int32) : Option Int64 :=
  (if (a1 : Int32) < (0 : Int32) then some (-1) else (if (x_S σ 11 : Int32) ≤ (a1 : Int32) then some (-1) else q_gd (q_in a1 247) <| some (x_L σ 10 ((a1 : Int32).toNatClampNeg))))

def f_T_looked (N : Nat) (σ : x_T) : Option Int32 :=
  some (x_S σ 13)

def f_T_isTablet (N : Nat) (σ : x_T) (a1 : Int32) : Option Int32 :=
  (if (a1 : Int32) < (0 : Int32) then some 0 else (if (x_S σ 7 : Int32) ≤ (a1 : Int32) then some 0 else some 1))

def f_T_flush (N : Nat) (σ : x_T) (a1 : Int32) : Option (Int32 × x_T) :=
  (f_T_isTablet N σ a1).bind fun r2 => (if (r2 : Int32) = (0 : Int32) then some ((-1), σ) else (f_T_flushTablet N σ a1).bind fun q4 => some (q4.1, q4.2))

def f_T_isCoveredInTables_L12 (N : Nat) (σ : x_T) (u2 : Int32) (u3 : Nat) (K : Option Int32) : Nat → Int32 → Option Int32
  | 0, _ => none
  | n + 1, v4 =>
    (if (v4 : Int32) < (0 : Int32) then K else q_gd (q_in v4 247) <| (q_om (x_E σ ((v4 : Int32).toNatClampNeg)) none (fun k4 => q_gd (q_lt k4 (x_N σ)) <| q_gd (q_lt u3 (x_N σ)) <| (if (x_P σ k4 0 : Int32) = (x_P σ u3 0 : Int32) then q_gd (q_in v4 247) <| (q_om (x_E σ ((v4 : Int32).toNatClampNeg)) none (fun k8 => q_gd (q_lt k8 (x_N σ)) <| (if (x_P σ k8 8 : Int32) < (u2 : Int32) then f_T_isCoveredInTables_L12 N σ u2 u3 K n (v4 + (-1)) else q_gd (q_in v4 247) <| (q_om (x_E σ ((v4 : Int32).toNatClampNeg)) none (fun k11 => q_gd (q_lt k11 (x_N σ)) <| (f_E_covers N σ k11 u3).bind fun r14 => (if (r14 : Int32) = (0 : Int32) then f_T_isCoveredInTables_L12 N σ u2 u3 K n (v4 + (-1)) else some 1)))))) else K))))
def f_T_isCoveredInTables (N : Nat) (σ : x_T) (a1 : Int32) (a2 : Int32) : Option Int32 :=
  q_gd (q_in a1 247) <| (q_om (x_E σ ((a1 : Int32).toNatClampNeg)) none (fun k2 => f_T_isCoveredInTables_L12 N σ a2 k2 (some 0) N (a1 - 1)))

def f_T_removeLeaving_L4 (N : Nat) (K : Int32 → x_T → Option x_T) : Nat → Int32 → Int32 → x_T → Option x_T
  | 0, _, _, _ => none
  | n + 1, v1, v2, σ =>
    (if (x_S σ 4 : Int32) ≤ (v2 : Int32) then K v1 σ else q_gd (q_in v2 247) <| (q_om (x_E σ ((v2 : Int32).toNatClampNeg)) none (fun k2 => q_gd (q_lt k2 (x_N σ)) <| (if (x_P σ k2 11 : Int32) = (0 : Int32) then q_gd (q_in v1 247) <| (q_om (x_E σ ((v1 : Int32).toNatClampNeg)) none (fun k5 => q_gd (q_lt k5 (x_N σ)) <| q_gd (q_in v2 247) <| q_let (x_sE σ ((v2 : Int32).toNatClampNeg) k5) fun s8 => q_gd (q_in v1 247) <| q_let (x_sE s8 ((v1 : Int32).toNatClampNeg) k2) fun s12 => f_T_removeLeaving_L4 N K n (v1 + 1) (v2 + 1) s12)) else f_T_removeLeaving_L4 N K n v1 (v2 + 1) σ))))
def f_T_removeLeaving (N : Nat) (σ : x_T) : Option x_T :=
  f_T_removeLeaving_L4 N (fun v1 t15 => q_let (x_sS t15 4 v1) fun s16 => some s16) N 0 0 σ

def f_T_mergeTables_L16 (N : Nat) (u2 : Int32) (u4 : Int32) (K : Int32 → x_T → Option (Int32 × x_T)) : Nat → Int32 → Int32 → x_T → Option (Int32 × x_T)
  | 0, _, _, _ => none
  | n + 1, v3, v5, σ =>
    (if (u4 : Int32) ≤ (v5 : Int32) then K v3 σ else q_gd (q_in v5 247) <| (q_om (x_E σ ((v5 : Int32).toNatClampNeg)) none (fun k6 => q_gd (q_lt k6 (x_N σ)) <| (if (x_P σ k6 8 : Int32) < (u2 : Int32) then f_T_mergeTables_L16 N u2 u4 K n v3 (v5 + 1) σ else (if (x_P σ k6 11 : Int32) = (0 : Int32) then q_let (x_sP σ k6 8 u2) fun s8 => f_T_mergeTables_L16 N u2 u4 K n (v3 + 1) (v5 + 1) s8 else f_T_mergeTables_L16 N u2 u4 K n v3 (v5 + 1) σ)))))
def f_T_mergeTables (N : Nat) (σ : x_T) (a1 : Int32) (a2 : Int32) : Option (Int32 × x_T) :=
  (f_T_endOf N σ a1).bind fun r2 => (f_T_startOf N σ a1).bind fun r4 => f_T_mergeTables_L16 N a2 r2 (fun v3 t10 => (f_T_removeLeaving N t10).bind fun s12 => some (v3, s12)) N 0 r4 σ

def f_T_compact_L46 (N : Nat) (u1 : Int32) (u3 : Int32) (u4 : Int32) (K : x_T → Option (Int32 × x_T)) : Nat → Int32 → x_T → Option (Int32 × x_T)
  | 0, _, _ => none
  | n + 1, v5, σ =>
    (if (u4 : Int32) ≤ (v5 : Int32) then K σ else q_gd (q_in v5 247) <| (q_om (x_E σ ((v5 : Int32).toNatClampNeg)) none (fun k12 => q_gd (q_lt k12 (x_N σ)) <| (if (x_P σ k12 8 : Int32) < (u3 : Int32) then q_let (x_sP σ k12 11 0) fun s14 => f_T_compact_L46 N u1 u3 u4 K n (v5 + 1) s14 else (f_T_isOldCell N σ k12).bind fun r17 => (if (r17 : Int32) = (0 : Int32) then (f_T_isCoveredInTables N σ v5 u3).bind fun r21 => (if (r21 : Int32) = (0 : Int32) then q_let (x_sP σ k12 11 0) fun s22 => f_T_compact_L46 N u1 u3 u4 K n (v5 + 1) s22 else q_let (x_sP σ k12 11 1) fun s24 => f_T_compact_L46 N u1 u3 u4 K n (v5 + 1) s24) else q_let (x_sP σ k12 11 1) fun s18 => f_T_compact_L46 N u1 u3 u4 K n (v5 + 1) s18)))))
def f_T_compact (N : Nat) (σ : x_T) (a1 : Int32) (a2 : Int32) : Option (Int32 × x_T) :=
  (f_T_isTablet N σ a1).bind fun r2 => (if (r2 : Int32) = (0 : Int32) then some ((-1), σ) else (if (a2 : Int32) < (2 : Int32) then some ((-1), σ) else (f_T_tableCount N σ a1).bind fun r4 => (if (a2 : Int32) ≤ (r4 : Int32) then (f_T_tableCount N σ a1).bind fun r6 => (f_T_endOf N σ a1).bind fun r8 => (f_T_startOf N σ a1).bind fun r10 => f_T_compact_L46 N a1 (r6 - a2) r8 (fun t26 => (f_T_mergeTables N t26 a1 (r6 - a2)).bind fun q28 => some (q28.1, q28.2)) N r10 σ else some ((-1), σ))))

def f_T_major_L28 (N : Nat) (u1 : Int32) (u2 : Int32) (K : x_T → Option (Int32 × x_T)) : Nat → Int32 → x_T → Option (Int32 × x_T)
  | 0, _, _ => none
  | n + 1, v3, σ =>
    (if (u2 : Int32) ≤ (v3 : Int32) then K σ else q_gd (q_in v3 247) <| (q_om (x_E σ ((v3 : Int32).toNatClampNeg)) none (fun k10 => q_gd (q_in v3 247) <| (q_om (x_E σ ((v3 : Int32).toNatClampNeg)) none (fun k12 => (f_T_isLive N σ k12).bind fun r14 => (if (r14 : Int32) = (0 : Int32) then q_gd (q_lt k10 (x_N σ)) <| q_let (x_sP σ k10 11 1) fun s19 => f_T_major_L28 N u1 u2 K n (v3 + 1) s19 else q_gd (q_lt k10 (x_N σ)) <| q_let (x_sP σ k10 11 0) fun s16 => f_T_major_L28 N u1 u2 K n (v3 + 1) s16))))))
def f_T_major (N : Nat) (σ : x_T) (a1 : Int32) : Option (Int32 × x_T) :=
  (f_T_isTablet N σ a1).bind fun r2 => (if (r2 : Int32) = (0 : Int32) then some ((-1), σ) else (f_T_flushTablet N σ a1).bind fun q4 => (f_T_endOf N q4.2 a1).bind fun r6 => (f_T_startOf N q4.2 a1).bind fun r8 => f_T_major_L28 N a1 r6 (fun t21 => (f_T_mergeTables N t21 a1 0).bind fun q23 => some (q23.1, q23.2)) N r8 q4.2)

def f_T_erasuresIn_L16 (N : Nat) (σ : x_T) (u2 : Int32) (u4 : Int32) (K : Int32 → Option Int32) : Nat → Int32 → Int32 → Option Int32
  | 0, _, _ => none
  | n + 1, v3, v5 =>
    (if (u4 : Int32) ≤ (v5 : Int32) then K v3 else q_gd (q_in v5 247) <| (q_om (x_E σ ((v5 : Int32).toNatClampNeg)) none (fun k6 => q_gd (q_lt k6 (x_N σ)) <| (if (x_P σ k6 8 : Int32) = (u2 : Int32) then q_gd (q_in v5 247) <| (q_om (x_E σ ((v5 : Int32).toNatClampNeg)) none (fun k9 => q_gd (q_lt k9 (x_N σ)) <| (if (x_P σ k9 4 : Int32) = (0 : Int32) then f_T_erasuresIn_L16 N σ u2 u4 K n v3 (v5 + 1) else f_T_erasuresIn_L16 N σ u2 u4 K n (v3 + 1) (v5 + 1)))) else f_T_erasuresIn_L16 N σ u2 u4 K n v3 (v5 + 1)))))
def f_T_erasuresIn (N : Nat) (σ : x_T) (a1 : Int32) (a2 : Int32) : Option Int32 :=
  (f_T_endOf N σ a1).bind fun r2 => (f_T_startOf N σ a1).bind fun r4 => f_T_erasuresIn_L16 N σ a2 r2 (fun v3 => some v3) N 0 r4

def f_T_firstRowIn_L13 (N : Nat) (σ : x_T) (u2 : Int32) (u3 : Int32) (K : Option Int32) : Nat → Int32 → Option Int32
  | 0, _ => none
  | n + 1, v4 =>
    (if (u3 : Int32) ≤ (v4 : Int32) then K else q_gd (q_in v4 247) <| (q_om (x_E σ ((v4 : Int32).toNatClampNeg)) none (fun k6 => q_gd (q_lt k6 (x_N σ)) <| (if (x_P σ k6 8 : Int32) = (u2 : Int32) then q_gd (q_in v4 247) <| (q_om (x_E σ ((v4 : Int32).toNatClampNeg)) none (fun k9 => q_gd (q_lt k9 (x_N σ)) <| some (x_P σ k9 0))) else f_T_firstRowIn_L13 N σ u2 u3 K n (v4 + 1)))))
def f_T_firstRowIn (N : Nat) (σ : x_T) (a1 : Int32) (a2 : Int32) : Option Int32 :=
  (f_T_endOf N σ a1).bind fun r2 => (f_T_startOf N σ a1).bind fun r4 => f_T_firstRowIn_L13 N σ a2 r2 (some (-1)) N r4

def f_T_table (N : Nat) (σ : x_T) (a1 : Int32) (a2 : Int32) (a3 : Int32) : Option Int32 :=
  (f_T_isTablet N σ a1).bind fun r2 => (if (r2 : Int32) = (0 : Int32) then some (-1) else (if (a2 : Int32) < (0 : Int32) then some (-1) else (f_T_tableCount N σ a1).bind fun r4 => (if (a2 : Int32) < (r4 : Int32) then (if (a3 : Int32) = 0 then (f_T_entriesIn N σ a1 a2).bind fun r6 => some r6 else (if (a3 : Int32) = 1 then (f_T_erasuresIn N σ a1 a2).bind fun r8 => some r8 else (if (a3 : Int32) = 2 then (f_T_entriesIn N σ a1 a2).bind fun r10 => some (((r10 + 4) - 1) / 4) else (if (a3 : Int32) = 3 then (f_T_firstRowIn N σ a1 a2).bind fun r12 => some r12 else some (-1))))) else some (-1))))

def f_T_log_L4 (N : Nat) (σ : x_T) (K : Int32 → Option Int32) : Nat → Int32 → Int32 → Option Int32
  | 0, _, _ => none
  | n + 1, v1, v2 =>
    (if (x_S σ 4 : Int32) ≤ (v2 : Int32) then K v1 else q_gd (q_in v2 247) <| (q_om (x_E σ ((v2 : Int32).toNatClampNeg)) none (fun k2 => q_gd (q_lt k2 (x_N σ)) <| (if (x_P σ k2 8 : Int32) = ((-1) : Int32) then q_gd (q_in v2 247) <| (q_om (x_E σ ((v2 : Int32).toNatClampNeg)) none (fun k5 => q_gd (q_lt k5 (x_N σ)) <| (if (x_P σ k5 9 : Int32) = (0 : Int32) then f_T_log_L4 N σ K n v1 (v2 + 1) else f_T_log_L4 N σ K n (v1 + 1) (v2 + 1)))) else f_T_log_L4 N σ K n v1 (v2 + 1)))))
def f_T_log (N : Nat) (σ : x_T) : Option Int32 :=
  f_T_log_L4 N σ (fun v1 => some v1) N 0 0

def f_T_moveUpBehind_L13 (N : Nat) (u2 : Int32) (u3 : Int32) (K : x_T → Option x_T) : Nat → Int32 → x_T → Option x_T
  | 0, _, _ => none
  | n + 1, v4, σ =>
    (if (u3 : Int32) ≤ (v4 : Int32) then K σ else q_gd (q_in v4 247) <| (q_om (x_E σ ((v4 : Int32).toNatClampNeg)) none (fun k6 => q_gd (q_lt k6 (x_N σ)) <| (if (x_P σ k6 8 : Int32) ≤ (u2 : Int32) then f_T_moveUpBehind_L13 N u2 u3 K n (v4 + 1) σ else q_gd (q_in v4 247) <| (q_om (x_E σ ((v4 : Int32).toNatClampNeg)) none (fun k9 => q_gd (q_lt k9 (x_N σ)) <| q_let (x_sP σ k9 8 ((x_P σ k9 8) - 1)) fun s11 => f_T_moveUpBehind_L13 N u2 u3 K n (v4 + 1) s11))))))
def f_T_moveUpBehind (N : Nat) (σ : x_T) (a1 : Int32) (a2 : Int32) : Option x_T :=
  (f_T_endOf N σ a1).bind fun r2 => (f_T_startOf N σ a1).bind fun r4 => f_T_moveUpBehind_L13 N a2 r2 (fun t14 => some t14) N r4 σ

def f_T_closeGaps_L8 (N : Nat) (u1 : Int32) (K : x_T → Option x_T) : Nat → Int32 → x_T → Option x_T
  | 0, _, _ => none
  | n + 1, v2, σ =>
    (if (v2 : Int32) < (0 : Int32) then K σ else (f_T_entriesIn N σ u1 v2).bind fun r4 => (if (r4 : Int32) = (0 : Int32) then (f_T_moveUpBehind N σ u1 v2).bind fun s6 => f_T_closeGaps_L8 N u1 K n (v2 + (-1)) s6 else f_T_closeGaps_L8 N u1 K n (v2 + (-1)) σ))
def f_T_closeGaps (N : Nat) (σ : x_T) (a1 : Int32) : Option x_T :=
  (f_T_tableCount N σ a1).bind fun r2 => f_T_closeGaps_L8 N a1 (fun t7 => some t7) N (r2 - 1) σ

def f_T_split_L48 (N : Nat) (u1 : Int32) (u2 : Int32) (K : x_T → Option (Int32 × x_T)) : Nat → Int32 → x_T → Option (Int32 × x_T)
  | 0, _, _ => none
  | n + 1, v3, σ =>
    (if (v3 : Int32) ≤ (u1 : Int32) then K σ else q_gd (q_in v3 9) <| q_gd (q_in (v3 + 1) 9) <| q_let (x_sI σ 4 ((v3 + 1 : Int32).toNatClampNeg) (x_I σ 4 ((v3 : Int32).toNatClampNeg))) fun s7 => f_T_split_L48 N u1 u2 K n (v3 + (-1)) s7)
def f_T_split (N : Nat) (σ : x_T) (a1 : Int32) (a2 : Int32) : Option (Int32 × x_T) :=
  (f_T_isTablet N σ a1).bind fun r2 => (if (r2 : Int32) = (0 : Int32) then some (0, σ) else (if (x_S σ 7 : Int32) < (8 : Int32) then q_gd (q_in a1 9) <| (if (a2 : Int32) ≤ (x_I σ 4 ((a1 : Int32).toNatClampNeg) : Int32) then some (0, σ) else q_gd (q_in (a1 + 1) 9) <| (if (a2 : Int32) < (x_I σ 4 ((a1 + 1 : Int32).toNatClampNeg) : Int32) then f_T_split_L48 N a1 a2 (fun t8 => q_gd (q_in (a1 + 1) 9) <| q_let (x_sI t8 4 ((a1 + 1 : Int32).toNatClampNeg) a2) fun s10 => q_let (x_sS s10 7 ((x_S s10 7) + 1)) fun s11 => (f_T_closeGaps N s11 a1).bind fun s13 => (f_T_closeGaps N s13 (a1 + 1)).bind fun s15 => some (1, s15)) N (x_S σ 7) σ else some (0, σ))) else some (0, σ)))

def f_T_join_L39 (N : Nat) (u1 : Int32) (u2 : Int32) (u3 : Int32) (K : x_T → Option (Int32 × x_T)) : Nat → Int32 → x_T → Option (Int32 × x_T)
  | 0, _, _ => none
  | n + 1, v4, σ =>
    (if (u3 : Int32) ≤ (v4 : Int32) then K σ else q_gd (q_in v4 247) <| (q_om (x_E σ ((v4 : Int32).toNatClampNeg)) none (fun k8 => q_gd (q_lt k8 (x_N σ)) <| (if (x_P σ k8 8 : Int32) = ((-1) : Int32) then f_T_join_L39 N u1 u2 u3 K n (v4 + 1) σ else q_gd (q_in v4 247) <| (q_om (x_E σ ((v4 : Int32).toNatClampNeg)) none (fun k11 => q_gd (q_lt k11 (x_N σ)) <| q_let (x_sP σ k11 8 ((x_P σ k11 8) + u2)) fun s13 => f_T_join_L39 N u1 u2 u3 K n (v4 + 1) s13))))))
def f_T_join_L96 (N : Nat) (K : x_T → Option (Int32 × x_T)) : Nat → Int32 → x_T → Option (Int32 × x_T)
  | 0, _, _ => none
  | n + 1, v4, σ =>
    (if (x_S σ 7 : Int32) < (v4 : Int32) then K σ else q_gd (q_in (v4 + 1) 9) <| q_gd (q_in v4 9) <| q_let (x_sI σ 4 ((v4 : Int32).toNatClampNeg) (x_I σ 4 ((v4 + 1 : Int32).toNatClampNeg))) fun s20 => f_T_join_L96 N K n (v4 + 1) s20)
def f_T_join (N : Nat) (σ : x_T) (a1 : Int32) : Option (Int32 × x_T) :=
  (if (a1 : Int32) < (0 : Int32) then some (0, σ) else (if (a1 : Int32) < ((x_S σ 7) - 1 : Int32) then (f_T_tableCount N σ a1).bind fun r2 => (f_T_endOf N σ (a1 + 1)).bind fun r4 => (f_T_startOf N σ (a1 + 1)).bind fun r6 => f_T_join_L39 N a1 r2 r4 (fun t16 => q_let (x_sS t16 7 ((x_S t16 7) - 1)) fun s17 => f_T_join_L96 N (fun t21 => some (1, t21)) N (a1 + 1) s17) N r6 σ else some (0, σ)))

def f_T_tablet (N : Nat) (σ : x_T) (a1 : Int32) (a2 : Int32) : Option Int32 :=
  (f_T_isTablet N σ a1).bind fun r2 => (if (r2 : Int32) = (0 : Int32) then some (-1) else (if (a2 : Int32) = 0 then q_gd (q_in a1 9) <| some (x_I σ 4 ((a1 : Int32).toNatClampNeg)) else (if (a2 : Int32) = 1 then q_gd (q_in (a1 + 1) 9) <| some ((x_I σ 4 ((a1 + 1 : Int32).toNatClampNeg)) - 1) else (if (a2 : Int32) = 2 then (f_T_tableCount N σ a1).bind fun r6 => some r6 else (if (a2 : Int32) = 3 then (f_T_entriesIn N σ a1 (-1)).bind fun r8 => some r8 else some (-1))))))

def f_T_nearest (a1 : Int32) (a2 : Int32) : Option Int32 :=
  some (if (0 : Int32) < ((if (a2 : Int32) < (a1 : Int32) then (a2 : Int32) else (a1 : Int32)) : Int32) then ((if (a2 : Int32) < (a1 : Int32) then (a2 : Int32) else (a1 : Int32)) : Int32) else (0 : Int32))

def f_M_nearest (a1 : Int32) (a2 : Int32) : Option Int32 :=
  (if (0 : Int32) ≤ (a1 : Int32) then (if (a1 : Int32) ≤ (a2 : Int32) then some a1 else some a2) else some 0)

def f_M_isRow (a1 : Int32) : Option Int32 :=
  (if (a1 : Int32) < (0 : Int32) then some 0 else (if (63 : Int32) < (a1 : Int32) then some 0 else some 1))

def f_M_isColumn (a1 : Int32) : Option Int32 :=
  (if (a1 : Int32) < (0 : Int32) then some 0 else (if (7 : Int32) < (a1 : Int32) then some 0 else some 1))

def f_M_isTime (a1 : Int32) : Option Int32 :=
  (if (a1 : Int32) < (0 : Int32) then some 0 else (if (9999 : Int32) < (a1 : Int32) then some 0 else some 1))

def f_M_isTablet (N : Nat) (σ : m_T) (a1 : Int32) : Option Int32 :=
  (if (a1 : Int32) < (0 : Int32) then some 0 else (if (m_S σ 9 : Int32) ≤ (a1 : Int32) then some 0 else some 1))

def f_M_covers (N : Nat) (σ : m_T) (a1 : Int32) (a2 : Int32) : Option Int32 :=
  (if (a1 : Int32) ≤ (a2 : Int32) then some 0 else q_gd (q_in a1 256) <| q_gd (q_in a2 256) <| (if (m_I σ 2 ((a1 : Int32).toNatClampNeg) : Int32) = (m_I σ 2 ((a2 : Int32).toNatClampNeg) : Int32) then q_gd (q_in a1 256) <| (if (m_I σ 1 ((a1 : Int32).toNatClampNeg) : Int32) = (3 : Int32) then some 1 else q_gd (q_in a1 256) <| q_gd (q_in a2 256) <| (if (m_I σ 3 ((a1 : Int32).toNatClampNeg) : Int32) = (m_I σ 3 ((a2 : Int32).toNatClampNeg) : Int32) then q_gd (q_in a1 256) <| (if (m_I σ 1 ((a1 : Int32).toNatClampNeg) : Int32) = (2 : Int32) then q_gd (q_in a2 256) <| (if (m_I σ 1 ((a2 : Int32).toNatClampNeg) : Int32) = (3 : Int32) then some 0 else some 1) else q_gd (q_in a2 256) <| (if (1 : Int32) < (m_I σ 1 ((a2 : Int32).toNatClampNeg) : Int32) then some 0 else q_gd (q_in a1 256) <| q_gd (q_in a2 256) <| (if (m_I σ 4 ((a1 : Int32).toNatClampNeg) : Int32) = (m_I σ 4 ((a2 : Int32).toNatClampNeg) : Int32) then some 1 else some 0))) else some 0)) else some 0))

def f_M_isOld (N : Nat) (σ : m_T) (a1 : Int32) : Option Int32 :=
  q_gd (q_in a1 256) <| q_gd (q_in ((m_I σ 3 ((a1 : Int32).toNatClampNeg)) / 4) 2) <| (if (m_I σ 12 (((m_I σ 3 ((a1 : Int32).toNatClampNeg)) / 4 : Int32).toNatClampNeg) : Int32) = (0 : Int32) then some 0 else q_gd (q_in a1 256) <| (if (m_S σ 14 : Int32) < ((m_I σ 4 ((a1 : Int32).toNatClampNeg)) + (m_I σ 12 (((m_I σ 3 ((a1 : Int32).toNatClampNeg)) / 4 : Int32).toNatClampNeg)) : Int32) then some 0 else some 1))

def f_M_isLive_L23 (N : Nat) (σ : m_T) (u1 : Int32) (K : Option Int32) : Nat → Int32 → Option Int32
  | 0, _ => none
  | n + 1, v2 =>
    (if (m_S σ 0 : Int32) ≤ (v2 : Int32) then K else (f_M_covers N σ v2 u1).bind fun r5 => (if (r5 : Int32) = (0 : Int32) then f_M_isLive_L23 N σ u1 K n (v2 + 1) else some 0))
def f_M_isLive (N : Nat) (σ : m_T) (a1 : Int32) : Option Int32 :=
  q_gd (q_in a1 256) <| (if (m_I σ 1 ((a1 : Int32).toNatClampNeg) : Int32) = (0 : Int32) then (f_M_isOld N σ a1).bind fun r3 => (if (r3 : Int32) = (0 : Int32) then f_M_isLive_L23 N σ a1 (some 1) N (a1 + 1) else some 0) else some 0)

def f_M_below_L6 (N : Nat) (σ : m_T) (u1 : Int32) (u2 : Int32) (u3 : Int32) (K : Int32 → Option Int32) : Nat → Int32 → Int32 → Option Int32
  | 0, _, _ => none
  | n + 1, v4, v5 =>
    (if (m_S σ 0 : Int32) ≤ (v5 : Int32) then K v4 else q_gd (q_in v5 256) <| (if (m_I σ 2 ((v5 : Int32).toNatClampNeg) : Int32) = (u1 : Int32) then q_gd (q_in v5 256) <| (if (m_I σ 3 ((v5 : Int32).toNatClampNeg) : Int32) = (u2 : Int32) then q_gd (q_in v5 256) <| (if (m_I σ 1 ((v5 : Int32).toNatClampNeg) : Int32) = (0 : Int32) then q_gd (q_in v5 256) <| (if (u3 : Int32) ≤ (m_I σ 4 ((v5 : Int32).toNatClampNeg) : Int32) then f_M_below_L6 N σ u1 u2 u3 K n v4 (v5 + 1) else (if (v4 : Int32) < (0 : Int32) then (f_M_isLive N σ v5).bind fun r6 => (if (r6 : Int32) = (0 : Int32) then f_M_below_L6 N σ u1 u2 u3 K n v4 (v5 + 1) else f_M_below_L6 N σ u1 u2 u3 K n v5 (v5 + 1)) else q_gd (q_in v5 256) <| q_gd (q_in v4 256) <| (if (m_I σ 4 ((v5 : Int32).toNatClampNeg) : Int32) ≤ (m_I σ 4 ((v4 : Int32).toNatClampNeg) : Int32) then f_M_below_L6 N σ u1 u2 u3 K n v4 (v5 + 1) else (f_M_isLive N σ v5).bind fun r10 => (if (r10 : Int32) = (0 : Int32) then f_M_below_L6 N σ u1 u2 u3 K n v4 (v5 + 1) else f_M_below_L6 N σ u1 u2 u3 K n v5 (v5 + 1))))) else f_M_below_L6 N σ u1 u2 u3 K n v4 (v5 + 1)) else f_M_below_L6 N σ u1 u2 u3 K n v4 (v5 + 1)) else f_M_below_L6 N σ u1 u2 u3 K n v4 (v5 + 1)))
def f_M_below (N : Nat) (σ : m_T) (a1 : Int32) (a2 : Int32) (a3 : Int32) : Option Int32 :=
  f_M_below_L6 N σ a1 a2 a3 (fun v4 => some v4) N (-1) 0

def f_M_tabletWith_L4 (N : Nat) (σ : m_T) (u1 : Int32) (K : Int32 → Option Int32) : Nat → Int32 → Int32 → Option Int32
  | 0, _, _ => none
  | n + 1, v2, v3 =>
    (if (m_S σ 9 : Int32) ≤ (v3 : Int32) then K v2 else q_gd (q_in v3 9) <| (if (u1 : Int32) < (m_I σ 9 ((v3 : Int32).toNatClampNeg) : Int32) then f_M_tabletWith_L4 N σ u1 K n v2 (v3 + 1) else f_M_tabletWith_L4 N σ u1 K n v3 (v3 + 1)))
def f_M_tabletWith (N : Nat) (σ : m_T) (a1 : Int32) : Option Int32 :=
  f_M_tabletWith_L4 N σ a1 (fun v2 => some v2) N 0 0

def f_M_make (N : Nat) (σ : m_T) (a1 : Int32) (a2 : Int32) (a3 : Int32) (a4 : Int32) (a5 : Int32) : Option m_T :=
  q_gd (q_in (m_S σ 0) 256) <| q_let (m_sI σ 1 ((m_S σ 0 : Int32).toNatClampNeg) a1) fun s2 => q_gd (q_in (m_S s2 0) 256) <| q_let (m_sI s2 2 ((m_S s2 0 : Int32).toNatClampNeg) a2) fun s4 => q_gd (q_in (m_S s4 0) 256) <| q_let (m_sI s4 3 ((m_S s4 0 : Int32).toNatClampNeg) a3) fun s6 => q_gd (q_in (m_S s6 0) 256) <| q_let (m_sI s6 4 ((m_S s6 0 : Int32).toNatClampNeg) a4) fun s8 => q_gd (q_in (m_S s8 0) 256) <| q_let (m_sI s8 5 ((m_S s8 0 : Int32).toNatClampNeg) a5) fun s10 => q_gd (q_in (m_S s10 0) 256) <| q_let (m_sI s10 6 ((m_S s10 0 : Int32).toNatClampNeg) (m_S s10 27)) fun s12 => (f_M_tabletWith N s12 a2).bind fun r14 => q_gd (q_in (m_S s12 0) 256) <| q_let (m_sI s12 7 ((m_S s12 0 : Int32).toNatClampNeg) r14) fun s16 => q_gd (q_in (m_S s16 0) 256) <| q_let (m_sI s16 8 ((m_S s16 0 : Int32).toNatClampNeg) (-1)) fun s18 => q_let (m_sS s18 0 ((m_S s18 0) + 1)) fun s19 => some s19

def f_M_move (N : Nat) (σ : m_T) (a1 : Int32) (a2 : Int32) : Option m_T :=
  q_gd (q_in a1 256) <| q_gd (q_in a2 256) <| q_let (m_sI σ 1 ((a2 : Int32).toNatClampNeg) (m_I σ 1 ((a1 : Int32).toNatClampNeg))) fun s3 => q_gd (q_in a1 256) <| q_gd (q_in a2 256) <| q_let (m_sI s3 2 ((a2 : Int32).toNatClampNeg) (m_I s3 2 ((a1 : Int32).toNatClampNeg))) fun s6 => q_gd (q_in a1 256) <| q_gd (q_in a2 256) <| q_let (m_sI s6 3 ((a2 : Int32).toNatClampNeg) (m_I s6 3 ((a1 : Int32).toNatClampNeg))) fun s9 => q_gd (q_in a1 256) <| q_gd (q_in a2 256) <| q_let (m_sI s9 4 ((a2 : Int32).toNatClampNeg) (m_I s9 4 ((a1 : Int32).toNatClampNeg))) fun s12 => q_gd (q_in a1 256) <| q_gd (q_in a2 256) <| q_let (m_sI s12 5 ((a2 : Int32).toNatClampNeg) (m_I s12 5 ((a1 : Int32).toNatClampNeg))) fun s15 => q_gd (q_in a1 256) <| q_gd (q_in a2 256) <| q_let (m_sI s15 6 ((a2 : Int32).toNatClampNeg) (m_I s15 6 ((a1 : Int32).toNatClampNeg))) fun s18 => q_gd (q_in a1 256) <| q_gd (q_in a2 256) <| q_let (m_sI s18 7 ((a2 : Int32).toNatClampNeg) (m_I s18 7 ((a1 : Int32).toNatClampNeg))) fun s21 => q_gd (q_in a1 256) <| q_gd (q_in a2 256) <| q_let (m_sI s21 8 ((a2 : Int32).toNatClampNeg) (m_I s21 8 ((a1 : Int32).toNatClampNeg))) fun s24 => some s24

def f_M_takes (N : Nat) (σ : m_T) (a1 : Int32) : Option Int32 :=
  (f_M_isRow a1).bind fun r2 => (if (r2 : Int32) = (0 : Int32) then some 0 else (if (4 : Int32) ≤ (m_S σ 15 : Int32) then some 0 else (if (m_S σ 15 : Int32) = (0 : Int32) then some 1 else (if (a1 : Int32) = (m_S σ 17 : Int32) then some 1 else some 0))))

def f_M_change (N : Nat) (σ : m_T) (a1 : Int32) (a2 : Int32) (a3 : Int32) (a4 : Int32) (a5 : Int32) : Option m_T :=
  q_let (m_sS σ 17 a2) fun s1 => q_gd (q_in (m_S s1 15) 4) <| q_let (m_sI s1 13 ((m_S s1 15 : Int32).toNatClampNeg) a1) fun s3 => q_gd (q_in (m_S s3 15) 4) <| q_let (m_sI s3 14 ((m_S s3 15 : Int32).toNatClampNeg) a3) fun s5 => q_gd (q_in (m_S s5 15) 4) <| q_let (m_sI s5 15 ((m_S s5 15 : Int32).toNatClampNeg) a4) fun s7 => q_gd (q_in (m_S s7 15) 4) <| q_let (m_sI s7 16 ((m_S s7 15 : Int32).toNatClampNeg) a5) fun s9 => q_let (m_sS s9 15 ((m_S s9 15) + 1)) fun s10 => some s10

def f_M_put (N : Nat) (σ : m_T) (a1 : Int32) (a2 : Int32) (a3 : Int32) (a4 : Int32) : Option (Int32 × m_T) :=
  (f_M_isColumn a2).bind fun r2 => (if (r2 : Int32) = (0 : Int32) then some (0, σ) else (f_M_isTime a3).bind fun r4 => (if (r4 : Int32) = (0 : Int32) then some (0, σ) else (f_M_takes N σ a1).bind fun r6 => (if (r6 : Int32) = (0 : Int32) then some (0, σ) else (f_M_change N σ 0 a1 a2 a3 a4).bind fun s8 => some (1, s8))))

def f_M_erase (N : Nat) (σ : m_T) (a1 : Int32) (a2 : Int32) (a3 : Int32) : Option (Int32 × m_T) :=
  (if (a2 : Int32) = ((-1) : Int32) then (if (a3 : Int32) = ((-1) : Int32) then (f_M_takes N σ a1).bind fun r34 => (if (r34 : Int32) = (0 : Int32) then some (0, σ) else (f_M_change N σ 3 a1 a2 a3 0).bind fun s36 => some (1, s36)) else (f_M_isColumn a2).bind fun r18 => (if (r18 : Int32) = (0 : Int32) then some (0, σ) else (if (a3 : Int32) = ((-1) : Int32) then (f_M_takes N σ a1).bind fun r20 => (if (r20 : Int32) = (0 : Int32) then some (0, σ) else (if (a3 : Int32) = ((-1) : Int32) then (f_M_change N σ 2 a1 a2 a3 0).bind fun s24 => some (1, s24) else (f_M_change N σ 1 a1 a2 a3 0).bind fun s22 => some (1, s22))) else (f_M_isTime a3).bind fun r26 => (if (r26 : Int32) = (0 : Int32) then some (0, σ) else (f_M_takes N σ a1).bind fun r28 => (if (r28 : Int32) = (0 : Int32) then some (0, σ) else (if (a3 : Int32) = ((-1) : Int32) then (f_M_change N σ 2 a1 a2 a3 0).bind fun s32 => some (1, s32) else (f_M_change N σ 1 a1 a2 a3 0).bind fun s30 => some (1, s30))))))) else (f_M_isColumn a2).bind fun r2 => (if (r2 : Int32) = (0 : Int32) then some (0, σ) else (if (a3 : Int32) = ((-1) : Int32) then (f_M_takes N σ a1).bind fun r4 => (if (r4 : Int32) = (0 : Int32) then some (0, σ) else (if (a3 : Int32) = ((-1) : Int32) then (f_M_change N σ 2 a1 a2 a3 0).bind fun s8 => some (1, s8) else (f_M_change N σ 1 a1 a2 a3 0).bind fun s6 => some (1, s6))) else (f_M_isTime a3).bind fun r10 => (if (r10 : Int32) = (0 : Int32) then some (0, σ) else (f_M_takes N σ a1).bind fun r12 => (if (r12 : Int32) = (0 : Int32) then some (0, σ) else (if (a3 : Int32) = ((-1) : Int32) then (f_M_change N σ 2 a1 a2 a3 0).bind fun s16 => some (1, s16) else (f_M_change N σ 1 a1 a2 a3 0).bind fun s14 => some (1, s14)))))))

def f_M_expect (N : Nat) (σ : m_T) (a1 : Int32) (a2 : Int32) (a3 : Int32) (a4 : Int32) : Option (Int32 × m_T) :=
  (f_M_isRow a1).bind fun r2 => (if (r2 : Int32) = (0 : Int32) then some (0, σ) else (f_M_isColumn a2).bind fun r4 => (if (r4 : Int32) = (0 : Int32) then some (0, σ) else q_let (m_sS σ 21 1) fun s5 => q_let (m_sS s5 22 a1) fun s6 => q_let (m_sS s6 23 a2) fun s7 => q_gd (q_bz a3) <| q_let (m_sS s7 24 a3) fun s9 => q_let (m_sS s9 25 a4) fun s10 => some (1, s10)))

def f_M_isMet (N : Nat) (σ : m_T) : Option Int32 :=
  (if (m_S σ 21 : Int32) = (0 : Int32) then some 1 else (f_M_below N σ (m_S σ 22) (m_S σ 23) 10000).bind fun r2 => (if (m_S σ 24 : Int32) = (0 : Int32) then (if (0 : Int32) ≤ (r2 : Int32) then some 0 else some 1) else (if (r2 : Int32) < (0 : Int32) then some 0 else q_gd (q_in r2 256) <| (if (m_I σ 5 ((r2 : Int32).toNatClampNeg) : Int32) = (m_S σ 25 : Int32) then some 1 else some 0))))

def f_M_drop (N : Nat) (σ : m_T) : Option m_T :=
  q_let (m_sS σ 15 0) fun s1 => q_let (m_sS s1 21 0) fun s2 => some s2

def f_M_trim_L26 (N : Nat) (σ : m_T) (u1 : Int32) (u2 : Int32) (u3 : Int32) (K : Int32 → Int32 → Option m_T) : Nat → Int32 → Int32 → Int32 → Option m_T
  | 0, _, _, _ => none
  | n + 1, v4, v5, v6 =>
    (if (v6 : Int32) < (0 : Int32) then K v4 v5 else q_gd (q_in v6 256) <| (f_M_below N σ u1 u2 (m_I σ 4 ((v6 : Int32).toNatClampNeg))).bind fun r6 => f_M_trim_L26 N σ u1 u2 u3 K n (v4 + 1) v6 r6)
def f_M_trim (N : Nat) (σ : m_T) (a1 : Int32) (a2 : Int32) : Option m_T :=
  q_gd (q_in (a2 / 4) 2) <| (f_M_below N σ a1 a2 10000).bind fun r3 => f_M_trim_L26 N σ a1 a2 (m_I σ 11 ((a2 / 4 : Int32).toNatClampNeg)) (fun v4 v5 => (if (m_I σ 11 ((a2 / 4 : Int32).toNatClampNeg) : Int32) = (0 : Int32) then some σ else (if (v4 : Int32) ≤ (m_I σ 11 ((a2 / 4 : Int32).toNatClampNeg) : Int32) then some σ else q_gd (q_in v5 256) <| (f_M_make N σ 1 a1 a2 (m_I σ 4 ((v5 : Int32).toNatClampNeg)) 0).bind fun s9 => some s9))) N 0 (-1) r3

def f_M_inTable_L5 (N : Nat) (σ : m_T) (u1 : Int32) (u2 : Int32) (K : Int32 → Option Int32) : Nat → Int32 → Int32 → Option Int32
  | 0, _, _ => none
  | n + 1, v3, v4 =>
    (if (m_S σ 0 : Int32) ≤ (v4 : Int32) then K v3 else q_gd (q_in v4 256) <| (if (m_I σ 7 ((v4 : Int32).toNatClampNeg) : Int32) = (u1 : Int32) then q_gd (q_in v4 256) <| (if (m_I σ 8 ((v4 : Int32).toNatClampNeg) : Int32) = (u2 : Int32) then f_M_inTable_L5 N σ u1 u2 K n (v3 + 1) (v4 + 1) else f_M_inTable_L5 N σ u1 u2 K n (v3 + 0) (v4 + 1)) else f_M_inTable_L5 N σ u1 u2 K n (v3 + 0) (v4 + 1)))
def f_M_inTable (N : Nat) (σ : m_T) (a1 : Int32) (a2 : Int32) : Option Int32 :=
  f_M_inTable_L5 N σ a1 a2 (fun v3 => some v3) N 0 0

def f_M_flushed_L4 (N : Nat) (u1 : Int32) (K : Int32 → m_T → Option (Int32 × m_T)) : Nat → Int32 → Int32 → m_T → Option (Int32 × m_T)
  | 0, _, _, _ => none
  | n + 1, v2, v3, σ =>
    (if (m_S σ 0 : Int32) ≤ (v3 : Int32) then K v2 σ else q_gd (q_in v3 256) <| (if (m_I σ 7 ((v3 : Int32).toNatClampNeg) : Int32) = (u1 : Int32) then q_gd (q_in v3 256) <| (if (m_I σ 8 ((v3 : Int32).toNatClampNeg) : Int32) = ((-1) : Int32) then q_gd (q_in u1 9) <| q_gd (q_in v3 256) <| q_let (m_sI σ 8 ((v3 : Int32).toNatClampNeg) (m_I σ 10 ((u1 : Int32).toNatClampNeg))) fun s5 => f_M_flushed_L4 N u1 K n (v2 + 1) (v3 + 1) s5 else f_M_flushed_L4 N u1 K n v2 (v3 + 1) σ) else f_M_flushed_L4 N u1 K n v2 (v3 + 1) σ))
def f_M_flushed (N : Nat) (σ : m_T) (a1 : Int32) : Option (Int32 × m_T) :=
  f_M_flushed_L4 N a1 (fun v2 t6 => q_gd (q_in a1 9) <| (if (v2 : Int32) ≤ (0 : Int32) then q_gd (q_in a1 9) <| q_let (m_sI t6 10 ((a1 : Int32).toNatClampNeg) ((m_I t6 10 ((a1 : Int32).toNatClampNeg)) + 0)) fun s9 => some (v2, s9) else q_gd (q_in a1 9) <| q_let (m_sI t6 10 ((a1 : Int32).toNatClampNeg) ((m_I t6 10 ((a1 : Int32).toNatClampNeg)) + 1)) fun s11 => some (v2, s11))) N 0 0 σ

def f_M_apply_L81 (N : Nat) (u2 : Int32) (u3 : Int32) (u4 : Int32) (K : m_T → Option (Int32 × m_T)) : Nat → Int32 → m_T → Option (Int32 × m_T)
  | 0, _, _ => none
  | n + 1, v5, σ =>
    (if (u3 : Int32) ≤ (v5 : Int32) then K σ else q_gd (q_in v5 4) <| q_gd (q_in v5 4) <| q_gd (q_in v5 4) <| q_gd (q_in v5 4) <| (f_M_make N σ (m_I σ 13 ((v5 : Int32).toNatClampNeg)) u2 (m_I σ 14 ((v5 : Int32).toNatClampNeg)) (m_I σ 15 ((v5 : Int32).toNatClampNeg)) (m_I σ 16 ((v5 : Int32).toNatClampNeg))).bind fun s11 => q_gd (q_in v5 4) <| (if (m_I s11 13 ((v5 : Int32).toNatClampNeg) : Int32) = (0 : Int32) then q_gd (q_in v5 4) <| (f_M_trim N s11 u2 (m_I s11 14 ((v5 : Int32).toNatClampNeg))).bind fun s15 => f_M_apply_L81 N u2 u3 u4 K n (v5 + 1) s15 else f_M_apply_L81 N u2 u3 u4 K n (v5 + 1) s11))
def f_M_apply (N : Nat) (σ : m_T) : Option (Int32 × m_T) :=
  (if (m_S σ 15 : Int32) = (0 : Int32) then some ((-1), σ) else (if (m_S σ 0 : Int32) < (240 : Int32) then (f_M_isMet N σ).bind fun r2 => (f_M_drop N σ).bind fun s4 => (if (m_S s4 26 : Int32) = (0 : Int32) then (if (r2 : Int32) = (0 : Int32) then some (0, s4) else q_let (m_sS s4 27 ((m_S s4 27) + 1)) fun s5 => f_M_apply_L81 N (m_S σ 17) (m_S σ 15) (m_S s4 0) (fun t16 => (f_M_tabletWith N t16 (m_S σ 17)).bind fun r18 => (f_M_inTable N t16 r18 (-1)).bind fun r20 => (if (r20 : Int32) < (16 : Int32) then some ((m_S t16 0) - (m_S s4 0), t16) else (f_M_flushed N t16 r18).bind fun q22 => some ((m_S t16 0) - (m_S s4 0), q22.2))) N 0 s5) else q_let (m_sS s4 26 0) fun s23 => some ((-3), s23)) else some ((-2), σ)))

def f_M_tear (N : Nat) (σ : m_T) : Option m_T :=
  q_let (m_sS σ 26 1) fun s1 => some s1

def f_M_crash (N : Nat) (σ : m_T) : Option m_T :=
  (f_M_drop N σ).bind fun s2 => some s2

def f_M_tick (N : Nat) (σ : m_T) (a1 : Int32) : Option (Int32 × m_T) :=
  (if (a1 : Int32) < (0 : Int32) then q_let (m_sS σ 14 ((m_S σ 14) + 0)) fun s1 => some (m_S s1 14, s1) else (if (5000 : Int32) < (a1 : Int32) then q_let (m_sS σ 14 ((m_S σ 14) + 0)) fun s2 => some (m_S s2 14, s2) else q_let (m_sS σ 14 ((m_S σ 14) + a1)) fun s3 => some (m_S s3 14, s3)))

def f_M_bits (a1 : Int32) : Option Int64 :=
  some (((1 : Int64) <<< ((((7 * a1) + 3) - ((7 * a1) + 3) / 64 * 64 : Int32).toInt64 &&& 63)) ||| ((1 : Int64) <<< ((((13 * a1) + 29) - ((13 * a1) + 29) / 64 * 64 : Int32).toInt64 &&& 63)))

def f_M_blocksFor_L12 (N : Nat) (σ : m_T) (u1 : Int32) (u2 : Int32) (u3 : Int32) (K : Int64 → Int32 → Int32 → Option Int32) : Nat → Int64 → Int32 → Int32 → Int32 → Option Int32
  | 0, _, _, _, _ => none
  | n + 1, v4, v6, v7, v8 =>
    (if (m_S σ 0 : Int32) ≤ (v8 : Int32) then K v4 v6 v7 else q_gd (q_in v8 256) <| (if (m_I σ 7 ((v8 : Int32).toNatClampNeg) : Int32) = (u1 : Int32) then q_gd (q_in v8 256) <| (if (m_I σ 8 ((v8 : Int32).toNatClampNeg) : Int32) = (u2 : Int32) then q_gd (q_in v8 256) <| (f_M_bits (m_I σ 2 ((v8 : Int32).toNatClampNeg))).bind fun r5 => q_gd (q_in v8 256) <| (if (u3 : Int32) ≤ (m_I σ 2 ((v8 : Int32).toNatClampNeg) : Int32) then q_gd (q_in v8 256) <| (if (m_I σ 2 ((v8 : Int32).toNatClampNeg) : Int32) = (u3 : Int32) then f_M_blocksFor_L12 N σ u1 u2 u3 K n (v4 ||| r5) (v6 + 0) (v7 + 1) (v8 + 1) else f_M_blocksFor_L12 N σ u1 u2 u3 K n (v4 ||| r5) (v6 + 0) (v7 + 0) (v8 + 1)) else q_gd (q_in v8 256) <| (if (m_I σ 2 ((v8 : Int32).toNatClampNeg) : Int32) = (u3 : Int32) then f_M_blocksFor_L12 N σ u1 u2 u3 K n (v4 ||| r5) (v6 + 1) (v7 + 1) (v8 + 1) else f_M_blocksFor_L12 N σ u1 u2 u3 K n (v4 ||| r5) (v6 + 1) (v7 + 0) (v8 + 1))) else f_M_blocksFor_L12 N σ u1 u2 u3 K n v4 v6 v7 (v8 + 1)) else f_M_blocksFor_L12 N σ u1 u2 u3 K n v4 v6 v7 (v8 + 1)))
def f_M_blocksFor (N : Nat) (σ : m_T) (a1 : Int32) (a2 : Int32) (a3 : Int32) : Option Int32 :=
  f_M_blocksFor_L12 N σ a1 a2 a3 (fun v4 v6 v7 => (f_M_bits a3).bind fun r10 => (if (lg_cmp (v4 &&& r10) r10 : Int32) = (0 : Int32) then (if (v7 : Int32) = (0 : Int32) then some 1 else some (((((v6 + v7) - 1) / 4) - (v6 / 4)) + 1)) else some 0)) N 0 0 0 0

def f_M_look_L8 (N : Nat) (u1 : Int32) (u2 : Int32) (K : m_T → Option m_T) : Nat → Int32 → m_T → Option m_T
  | 0, _, _ => none
  | n + 1, v3, σ =>
    q_gd (q_in u2 9) <| (if (m_I σ 10 ((u2 : Int32).toNatClampNeg) : Int32) ≤ (v3 : Int32) then K σ else (f_M_blocksFor N σ u2 v3 u1).bind fun r5 => q_let (m_sS σ 31 ((m_S σ 31) + r5)) fun s6 => f_M_look_L8 N u1 u2 K n (v3 + 1) s6)
def f_M_look (N : Nat) (σ : m_T) (a1 : Int32) : Option m_T :=
  (f_M_tabletWith N σ a1).bind fun r2 => f_M_look_L8 N a1 r2 (fun t7 => some t7) N 0 σ

def f_M_get_L71 (N : Nat) (σ : m_T) (u1 : Int32) (u2 : Int32) (u4 : Int32) (K : Int32 → Option (Int64 × m_T)) : Nat → Int32 → Int32 → Option (Int64 × m_T)
  | 0, _, _ => none
  | n + 1, v6, v7 =>
    (if (u4 : Int32) ≤ (v7 : Int32) then K v6 else (if (v6 : Int32) < (0 : Int32) then K v6 else q_gd (q_in v6 256) <| (f_M_below N σ u1 u2 (m_I σ 4 ((v6 : Int32).toNatClampNeg))).bind fun r11 => f_M_get_L71 N σ u1 u2 u4 K n r11 (v7 + 1)))
def f_M_get (N : Nat) (σ : m_T) (a1 : Int32) (a2 : Int32) (a3 : Int32) (a4 : Int32) : Option (Int64 × m_T) :=
  (f_M_isRow a1).bind fun r2 => (if (r2 : Int32) = (0 : Int32) then some (-1, σ) else (f_M_isColumn a2).bind fun r4 => (if (r4 : Int32) = (0 : Int32) then some (-1, σ) else (f_M_look N σ a1).bind fun s6 => (if (0 : Int32) ≤ (a4 : Int32) then (if (a3 : Int32) ≤ (9999 : Int32) then (if (0 : Int32) ≤ (a3 : Int32) then (f_M_below N s6 a1 a2 (a3 + 1)).bind fun r8 => f_M_get_L71 N s6 a1 a2 a4 (fun v6 => (if (0 : Int32) ≤ (v6 : Int32) then q_gd (q_in v6 256) <| q_gd (q_in v6 256) <| some ((4294967296 * ((m_I s6 4 ((v6 : Int32).toNatClampNeg) : Int32).toInt64)) + (((m_I s6 5 ((v6 : Int32).toNatClampNeg) : Int32).toInt64) &&& 4294967295), s6) else some (-1, s6))) N r8 0 else (f_M_below N s6 a1 a2 0).bind fun r15 => f_M_get_L71 N s6 a1 a2 a4 (fun v6 => (if (0 : Int32) ≤ (v6 : Int32) then q_gd (q_in v6 256) <| q_gd (q_in v6 256) <| some ((4294967296 * ((m_I s6 4 ((v6 : Int32).toNatClampNeg) : Int32).toInt64)) + (((m_I s6 5 ((v6 : Int32).toNatClampNeg) : Int32).toInt64) &&& 4294967295), s6) else some (-1, s6))) N r15 0) else (f_M_below N s6 a1 a2 10000).bind fun r22 => f_M_get_L71 N s6 a1 a2 a4 (fun v6 => (if (0 : Int32) ≤ (v6 : Int32) then q_gd (q_in v6 256) <| q_gd (q_in v6 256) <| some ((4294967296 * ((m_I s6 4 ((v6 : Int32).toNatClampNeg) : Int32).toInt64)) + (((m_I s6 5 ((v6 : Int32).toNatClampNeg) : Int32).toInt64) &&& 4294967295), s6) else some (-1, s6))) N r22 0) else some (-1, s6))))

def f_M_gather_L35 (N : Nat) (u1 : Int32) (u2 : Int32) (u3 : Int32) (K : m_T → Option m_T) : Nat → Int32 → m_T → Option m_T
  | 0, _, _ => none
  | n + 1, v5, σ =>
    (if (v5 : Int32) < (0 : Int32) then K σ else q_gd (q_in v5 256) <| (if (m_I σ 4 ((v5 : Int32).toNatClampNeg) : Int32) < (u3 : Int32) then K σ else q_gd (q_in v5 256) <| q_gd (q_in (m_S σ 28) 256) <| q_let (m_sI σ 17 ((m_S σ 28 : Int32).toNatClampNeg) (((80000 * u1) + (10000 * u2)) + (m_I σ 4 ((v5 : Int32).toNatClampNeg)))) fun s6 => q_gd (q_in v5 256) <| q_gd (q_in (m_S s6 28) 256) <| q_let (m_sI s6 18 ((m_S s6 28 : Int32).toNatClampNeg) (m_I s6 5 ((v5 : Int32).toNatClampNeg))) fun s9 => q_let (m_sS s9 28 ((m_S s9 28) + 1)) fun s10 => q_gd (q_in v5 256) <| (f_M_below N s10 u1 u2 (m_I s10 4 ((v5 : Int32).toNatClampNeg))).bind fun r13 => f_M_gather_L35 N u1 u2 u3 K n r13 s10))
def f_M_gather (N : Nat) (σ : m_T) (a1 : Int32) (a2 : Int32) (a3 : Int32) (a4 : Int32) : Option m_T :=
  (if (a4 : Int32) ≤ (9999 : Int32) then (if (0 : Int32) ≤ (a4 : Int32) then (f_M_below N σ a1 a2 (a4 + 1)).bind fun r2 => f_M_gather_L35 N a1 a2 a3 (fun t14 => some t14) N r2 σ else (f_M_below N σ a1 a2 0).bind fun r16 => f_M_gather_L35 N a1 a2 a3 (fun t28 => some t28) N r16 σ) else (f_M_below N σ a1 a2 10000).bind fun r30 => f_M_gather_L35 N a1 a2 a3 (fun t42 => some t42) N r30 σ)

def f_M_scan_L49 (N : Nat) (u1 : Int32) (u2 : Int32) (u3 : Int32) (u4 : Int32) (u5 : Int32) (u6 : Int32) (K : m_T → Option (Int32 × m_T)) : Nat → Int32 → m_T → Option (Int32 × m_T)
  | 0, _, _ => none
  | n + 1, v7, σ =>
    (if (8 : Int32) ≤ (v7 : Int32) then K σ else (if (u3 : Int32) = ((-1) : Int32) then (f_M_gather N σ u6 v7 u4 u5).bind fun s5 => f_M_scan_L49 N u1 u2 u3 u4 u5 u6 K n (v7 + 1) s5 else (if (u3 : Int32) = (v7 : Int32) then (f_M_gather N σ u6 v7 u4 u5).bind fun s7 => f_M_scan_L49 N u1 u2 u3 u4 u5 u6 K n (v7 + 1) s7 else f_M_scan_L49 N u1 u2 u3 u4 u5 u6 K n (v7 + 1) σ)))
def f_M_scan_L21 (N : Nat) (u1 : Int32) (u2 : Int32) (u3 : Int32) (u4 : Int32) (u5 : Int32) (K : m_T → Option (Int32 × m_T)) : Nat → Int32 → m_T → Option (Int32 × m_T)
  | 0, _, _ => none
  | n + 1, v6, σ =>
    (if (64 : Int32) ≤ (v6 : Int32) then K σ else (if (v6 : Int32) < (u1 : Int32) then f_M_scan_L21 N u1 u2 u3 u4 u5 K n (v6 + 1) σ else (if (u2 : Int32) < (v6 : Int32) then f_M_scan_L21 N u1 u2 u3 u4 u5 K n (v6 + 1) σ else (f_M_look N σ v6).bind fun s3 => f_M_scan_L49 N u1 u2 u3 u4 u5 v6 (fun t8 => f_M_scan_L21 N u1 u2 u3 u4 u5 K n (v6 + 1) t8) N 0 s3)))
def f_M_scan (N : Nat) (σ : m_T) (a1 : Int32) (a2 : Int32) (a3 : Int32) (a4 : Int32) (a5 : Int32) : Option (Int32 × m_T) :=
  (if (a3 : Int32) < ((-1) : Int32) then some ((-1), σ) else (if (a3 : Int32) ≤ (7 : Int32) then q_let (m_sS σ 28 0) fun s1 => f_M_scan_L21 N a1 a2 a3 a4 a5 (fun t9 => some (m_S t9 28, t9)) N 0 s1 else some ((-1), σ)))

def f_M_found (N : Nat) (σ : m_T) (a1 : Int32) : Option Int64 :=
  (if (a1 : Int32) < (0 : Int32) then some (-1) else (if (a1 : Int32) < (m_S σ 28 : Int32) then q_gd (q_in a1 256) <| q_gd (q_in a1 256) <| some ((4294967296 * ((m_I σ 17 ((a1 : Int32).toNatClampNeg) : Int32).toInt64)) + (((m_I σ 18 ((a1 : Int32).toNatClampNeg) : Int32).toInt64) &&& 4294967295)) else some (-1)))

def f_M_flush (N : Nat) (σ : m_T) (a1 : Int32) : Option (Int32 × m_T) :=
  (f_M_isTablet N σ a1).bind fun r2 => (if (r2 : Int32) = (0 : Int32) then some ((-1), σ) else (f_M_flushed N σ a1).bind fun q4 => some (q4.1, q4.2))

def f_M_isIn (N : Nat) (σ : m_T) (a1 : Int32) (a2 : Int32) (a3 : Int32) : Option Int32 :=
  q_gd (q_in a1 256) <| (if (m_I σ 7 ((a1 : Int32).toNatClampNeg) : Int32) = (a2 : Int32) then q_gd (q_in a1 256) <| (if (m_I σ 8 ((a1 : Int32).toNatClampNeg) : Int32) < (a3 : Int32) then some 0 else some 1) else some 0)

def f_M_merge_L57 (N : Nat) (σ : m_T) (u1 : Int32) (u2 : Int32) (u3 : Int32) (u4 : Int32) (K : Int32 → Option (Int32 × m_T)) : Nat → Int32 → Int32 → Option (Int32 × m_T)
  | 0, _, _ => none
  | n + 1, v5, v6 =>
    (if (m_S σ 0 : Int32) ≤ (v6 : Int32) then K v5 else (if (u3 : Int32) = (0 : Int32) then (if (v5 : Int32) = (0 : Int32) then f_M_merge_L57 N σ u1 u2 u3 u4 K n 0 (v6 + 1) else (f_M_isIn N σ v6 u1 u2).bind fun r3 => (if (r3 : Int32) = (0 : Int32) then f_M_merge_L57 N σ u1 u2 u3 u4 K n 1 (v6 + 1) else (f_M_covers N σ v6 u4).bind fun r5 => (if (r5 : Int32) = (0 : Int32) then f_M_merge_L57 N σ u1 u2 u3 u4 K n 1 (v6 + 1) else f_M_merge_L57 N σ u1 u2 u3 u4 K n 0 (v6 + 1)))) else K v5))
def f_M_merge_L3 (N : Nat) (u1 : Int32) (u2 : Int32) (u3 : Int32) (K : m_T → Option (Int32 × m_T)) : Nat → Int32 → m_T → Option (Int32 × m_T)
  | 0, _, _ => none
  | n + 1, v4, σ =>
    (if (m_S σ 0 : Int32) ≤ (v4 : Int32) then K σ else (if (u3 : Int32) = (0 : Int32) then q_gd (q_in v4 256) <| (if (m_I σ 1 ((v4 : Int32).toNatClampNeg) : Int32) = (0 : Int32) then (f_M_isOld N σ v4).bind fun r17 => (if (r17 : Int32) = (0 : Int32) then f_M_merge_L57 N σ u1 u2 u3 v4 (fun v5 => (f_M_isIn N σ v4 u1 u2).bind fun r37 => (if (r37 : Int32) = (0 : Int32) then q_gd (q_in v4 256) <| q_gd (q_in v4 256) <| q_let (m_sI σ 6 ((v4 : Int32).toNatClampNeg) (m_I σ 6 ((v4 : Int32).toNatClampNeg))) fun s40 => f_M_merge_L3 N u1 u2 u3 K n (v4 + 1) s40 else (if (v5 : Int32) = (0 : Int32) then q_gd (q_in v4 256) <| q_let (m_sI σ 6 ((v4 : Int32).toNatClampNeg) (-2)) fun s45 => f_M_merge_L3 N u1 u2 u3 K n (v4 + 1) s45 else q_gd (q_in v4 256) <| q_gd (q_in v4 256) <| q_let (m_sI σ 6 ((v4 : Int32).toNatClampNeg) (m_I σ 6 ((v4 : Int32).toNatClampNeg))) fun s43 => f_M_merge_L3 N u1 u2 u3 K n (v4 + 1) s43))) N 1 (v4 + 1) else f_M_merge_L57 N σ u1 u2 u3 v4 (fun v5 => (f_M_isIn N σ v4 u1 u2).bind fun r23 => (if (r23 : Int32) = (0 : Int32) then q_gd (q_in v4 256) <| q_gd (q_in v4 256) <| q_let (m_sI σ 6 ((v4 : Int32).toNatClampNeg) (m_I σ 6 ((v4 : Int32).toNatClampNeg))) fun s26 => f_M_merge_L3 N u1 u2 u3 K n (v4 + 1) s26 else (if (v5 : Int32) = (0 : Int32) then q_gd (q_in v4 256) <| q_let (m_sI σ 6 ((v4 : Int32).toNatClampNeg) (-2)) fun s31 => f_M_merge_L3 N u1 u2 u3 K n (v4 + 1) s31 else q_gd (q_in v4 256) <| q_gd (q_in v4 256) <| q_let (m_sI σ 6 ((v4 : Int32).toNatClampNeg) (m_I σ 6 ((v4 : Int32).toNatClampNeg))) fun s29 => f_M_merge_L3 N u1 u2 u3 K n (v4 + 1) s29))) N 0 (v4 + 1)) else f_M_merge_L57 N σ u1 u2 u3 v4 (fun v5 => (f_M_isIn N σ v4 u1 u2).bind fun r7 => (if (r7 : Int32) = (0 : Int32) then q_gd (q_in v4 256) <| q_gd (q_in v4 256) <| q_let (m_sI σ 6 ((v4 : Int32).toNatClampNeg) (m_I σ 6 ((v4 : Int32).toNatClampNeg))) fun s10 => f_M_merge_L3 N u1 u2 u3 K n (v4 + 1) s10 else (if (v5 : Int32) = (0 : Int32) then q_gd (q_in v4 256) <| q_let (m_sI σ 6 ((v4 : Int32).toNatClampNeg) (-2)) fun s15 => f_M_merge_L3 N u1 u2 u3 K n (v4 + 1) s15 else q_gd (q_in v4 256) <| q_gd (q_in v4 256) <| q_let (m_sI σ 6 ((v4 : Int32).toNatClampNeg) (m_I σ 6 ((v4 : Int32).toNatClampNeg))) fun s13 => f_M_merge_L3 N u1 u2 u3 K n (v4 + 1) s13))) N 1 (v4 + 1)) else (f_M_isLive N σ v4).bind fun r47 => f_M_merge_L57 N σ u1 u2 u3 v4 (fun v5 => (f_M_isIn N σ v4 u1 u2).bind fun r53 => (if (r53 : Int32) = (0 : Int32) then q_gd (q_in v4 256) <| q_gd (q_in v4 256) <| q_let (m_sI σ 6 ((v4 : Int32).toNatClampNeg) (m_I σ 6 ((v4 : Int32).toNatClampNeg))) fun s56 => f_M_merge_L3 N u1 u2 u3 K n (v4 + 1) s56 else (if (v5 : Int32) = (0 : Int32) then q_gd (q_in v4 256) <| q_let (m_sI σ 6 ((v4 : Int32).toNatClampNeg) (-2)) fun s61 => f_M_merge_L3 N u1 u2 u3 K n (v4 + 1) s61 else q_gd (q_in v4 256) <| q_gd (q_in v4 256) <| q_let (m_sI σ 6 ((v4 : Int32).toNatClampNeg) (m_I σ 6 ((v4 : Int32).toNatClampNeg))) fun s59 => f_M_merge_L3 N u1 u2 u3 K n (v4 + 1) s59))) N r47 (v4 + 1)))
def f_M_merge_L160 (N : Nat) (u1 : Int32) (u2 : Int32) (K : Int32 → Int32 → m_T → Option (Int32 × m_T)) : Nat → Int32 → Int32 → Int32 → m_T → Option (Int32 × m_T)
  | 0, _, _, _, _ => none
  | n + 1, v4, v5, v6, σ =>
    (if (m_S σ 0 : Int32) ≤ (v6 : Int32) then K v4 v5 σ else q_gd (q_in v6 256) <| (if (m_I σ 6 ((v6 : Int32).toNatClampNeg) : Int32) = ((-2) : Int32) then f_M_merge_L160 N u1 u2 K n v4 v5 (v6 + 1) σ else (f_M_move N σ v6 v4).bind fun s65 => (f_M_isIn N s65 v4 u1 u2).bind fun r67 => (if (r67 : Int32) = (0 : Int32) then f_M_merge_L160 N u1 u2 K n (v4 + 1) v5 (v6 + 1) s65 else q_gd (q_in v4 256) <| q_let (m_sI s65 8 ((v4 : Int32).toNatClampNeg) u2) fun s69 => f_M_merge_L160 N u1 u2 K n (v4 + 1) (v5 + 1) (v6 + 1) s69)))
def f_M_merge (N : Nat) (σ : m_T) (a1 : Int32) (a2 : Int32) (a3 : Int32) : Option (Int32 × m_T) :=
  f_M_merge_L3 N a1 a2 a3 (fun t62 => f_M_merge_L160 N a1 a2 (fun v4 v5 t70 => q_let (m_sS t70 0 v4) fun s71 => (if (v5 : Int32) ≤ (0 : Int32) then q_gd (q_in a1 9) <| q_let (m_sI s71 10 ((a1 : Int32).toNatClampNeg) a2) fun s73 => some (v5, s73) else q_gd (q_in a1 9) <| q_let (m_sI s71 10 ((a1 : Int32).toNatClampNeg) (a2 + 1)) fun s75 => some (v5, s75))) N 0 0 0 t62) N 0 σ

def f_M_compact (N : Nat) (σ : m_T) (a1 : Int32) (a2 : Int32) : Option (Int32 × m_T) :=
  (f_M_isTablet N σ a1).bind fun r2 => (if (r2 : Int32) = (0 : Int32) then some ((-1), σ) else (if (a2 : Int32) < (2 : Int32) then some ((-1), σ) else q_gd (q_in a1 9) <| (if (a2 : Int32) ≤ (m_I σ 10 ((a1 : Int32).toNatClampNeg) : Int32) then q_gd (q_in a1 9) <| (f_M_merge N σ a1 ((m_I σ 10 ((a1 : Int32).toNatClampNeg)) - a2) 0).bind fun q6 => some (q6.1, q6.2) else some ((-1), σ))))

def f_M_major (N : Nat) (σ : m_T) (a1 : Int32) : Option (Int32 × m_T) :=
  (f_M_isTablet N σ a1).bind fun r2 => (if (r2 : Int32) = (0 : Int32) then some ((-1), σ) else (f_M_flushed N σ a1).bind fun q4 => (if (q4.1 : Int32) < (0 : Int32) then some (0, q4.2) else (f_M_merge N q4.2 a1 0 1).bind fun q6 => some (q6.1, q6.2)))

def f_M_lastRow (N : Nat) (σ : m_T) (a1 : Int32) : Option Int32 :=
  (if (a1 : Int32) = ((m_S σ 9) - 1 : Int32) then some 63 else q_gd (q_in (a1 + 1) 9) <| some ((m_I σ 9 ((a1 + 1 : Int32).toNatClampNeg)) - 1))

def f_M_close_L26 (N : Nat) (u1 : Int32) (u2 : Int32) (u3 : Int32) (K : m_T → Option m_T) : Nat → Int32 → m_T → Option m_T
  | 0, _, _ => none
  | n + 1, v4, σ =>
    (if (m_S σ 0 : Int32) ≤ (v4 : Int32) then K σ else q_gd (q_in v4 256) <| (if (m_I σ 7 ((v4 : Int32).toNatClampNeg) : Int32) = (u1 : Int32) then q_gd (q_in v4 256) <| (if (m_I σ 8 ((v4 : Int32).toNatClampNeg) : Int32) = (u3 : Int32) then q_gd (q_in v4 256) <| q_let (m_sI σ 8 ((v4 : Int32).toNatClampNeg) u2) fun s7 => f_M_close_L26 N u1 u2 u3 K n (v4 + 1) s7 else f_M_close_L26 N u1 u2 u3 K n (v4 + 1) σ) else f_M_close_L26 N u1 u2 u3 K n (v4 + 1) σ))
def f_M_close_L4 (N : Nat) (u1 : Int32) (K : Int32 → m_T → Option m_T) : Nat → Int32 → Int32 → m_T → Option m_T
  | 0, _, _, _ => none
  | n + 1, v2, v3, σ =>
    q_gd (q_in u1 9) <| (if (m_I σ 10 ((u1 : Int32).toNatClampNeg) : Int32) ≤ (v3 : Int32) then K v2 σ else (f_M_inTable N σ u1 v3).bind fun r3 => (if (r3 : Int32) ≤ (0 : Int32) then f_M_close_L4 N u1 K n v2 (v3 + 1) σ else f_M_close_L26 N u1 v2 v3 (fun t8 => f_M_close_L4 N u1 K n (v2 + 1) (v3 + 1) t8) N 0 σ))
def f_M_close (N : Nat) (σ : m_T) (a1 : Int32) : Option m_T :=
  f_M_close_L4 N a1 (fun v2 t9 => q_gd (q_in a1 9) <| q_let (m_sI t9 10 ((a1 : Int32).toNatClampNeg) v2) fun s11 => some s11) N 0 0 σ

def f_M_split_L42 (N : Nat) (u1 : Int32) (u2 : Int32) (K : m_T → Option (Int32 × m_T)) : Nat → Int32 → m_T → Option (Int32 × m_T)
  | 0, _, _ => none
  | n + 1, v3, σ =>
    (if (m_S σ 0 : Int32) ≤ (v3 : Int32) then K σ else q_gd (q_in v3 256) <| (if (u1 : Int32) < (m_I σ 7 ((v3 : Int32).toNatClampNeg) : Int32) then q_gd (q_in v3 256) <| q_gd (q_in v3 256) <| q_let (m_sI σ 7 ((v3 : Int32).toNatClampNeg) ((m_I σ 7 ((v3 : Int32).toNatClampNeg)) + 1)) fun s9 => f_M_split_L42 N u1 u2 K n (v3 + 1) s9 else q_gd (q_in v3 256) <| (if (m_I σ 7 ((v3 : Int32).toNatClampNeg) : Int32) = (u1 : Int32) then q_gd (q_in v3 256) <| (if (m_I σ 2 ((v3 : Int32).toNatClampNeg) : Int32) < (u2 : Int32) then f_M_split_L42 N u1 u2 K n (v3 + 1) σ else q_gd (q_in v3 256) <| q_gd (q_in v3 256) <| q_let (m_sI σ 7 ((v3 : Int32).toNatClampNeg) ((m_I σ 7 ((v3 : Int32).toNatClampNeg)) + 1)) fun s14 => f_M_split_L42 N u1 u2 K n (v3 + 1) s14) else f_M_split_L42 N u1 u2 K n (v3 + 1) σ)))
def f_M_split_L101 (N : Nat) (u1 : Int32) (u2 : Int32) (K : m_T → Option (Int32 × m_T)) : Nat → Int32 → m_T → Option (Int32 × m_T)
  | 0, _, _ => none
  | n + 1, v3, σ =>
    (if (v3 : Int32) ≤ (u1 + 1 : Int32) then K σ else q_gd (q_in (v3 - 1) 9) <| q_gd (q_in v3 9) <| q_let (m_sI σ 9 ((v3 : Int32).toNatClampNeg) (m_I σ 9 ((v3 - 1 : Int32).toNatClampNeg))) fun s18 => q_gd (q_in (v3 - 1) 9) <| q_gd (q_in v3 9) <| q_let (m_sI s18 10 ((v3 : Int32).toNatClampNeg) (m_I s18 10 ((v3 - 1 : Int32).toNatClampNeg))) fun s21 => f_M_split_L101 N u1 u2 K n (v3 + (-1)) s21)
def f_M_split (N : Nat) (σ : m_T) (a1 : Int32) (a2 : Int32) : Option (Int32 × m_T) :=
  (f_M_isTablet N σ a1).bind fun r2 => (if (r2 : Int32) = (0 : Int32) then some (0, σ) else (if (m_S σ 9 : Int32) = (8 : Int32) then some (0, σ) else q_gd (q_in a1 9) <| (if (a2 : Int32) ≤ (m_I σ 9 ((a1 : Int32).toNatClampNeg) : Int32) then some (0, σ) else (f_M_lastRow N σ a1).bind fun r5 => (if (a2 : Int32) ≤ (r5 : Int32) then f_M_split_L42 N a1 a2 (fun t15 => f_M_split_L101 N a1 a2 (fun t22 => q_gd (q_in (a1 + 1) 9) <| q_let (m_sI t22 9 ((a1 + 1 : Int32).toNatClampNeg) a2) fun s24 => q_gd (q_in a1 9) <| q_gd (q_in (a1 + 1) 9) <| q_let (m_sI s24 10 ((a1 + 1 : Int32).toNatClampNeg) (m_I s24 10 ((a1 : Int32).toNatClampNeg))) fun s27 => q_let (m_sS s27 9 ((m_S s27 9) + 1)) fun s28 => (f_M_close N s28 a1).bind fun s30 => (f_M_close N s30 (a1 + 1)).bind fun s32 => some (1, s32)) N (m_S t15 9) t15) N 0 σ else some (0, σ)))))

def f_M_join_L22 (N : Nat) (u1 : Int32) (K : m_T → Option (Int32 × m_T)) : Nat → Int32 → m_T → Option (Int32 × m_T)
  | 0, _, _ => none
  | n + 1, v2, σ =>
    (if (m_S σ 0 : Int32) ≤ (v2 : Int32) then K σ else q_gd (q_in v2 256) <| (if (m_I σ 7 ((v2 : Int32).toNatClampNeg) : Int32) = (u1 + 1 : Int32) then q_gd (q_in v2 256) <| (if (m_I σ 8 ((v2 : Int32).toNatClampNeg) : Int32) < (0 : Int32) then q_gd (q_in v2 256) <| (if (m_I σ 7 ((v2 : Int32).toNatClampNeg) : Int32) ≤ (u1 : Int32) then f_M_join_L22 N u1 K n (v2 + 1) σ else q_gd (q_in v2 256) <| q_gd (q_in v2 256) <| q_let (m_sI σ 7 ((v2 : Int32).toNatClampNeg) ((m_I σ 7 ((v2 : Int32).toNatClampNeg)) - 1)) fun s14 => f_M_join_L22 N u1 K n (v2 + 1) s14) else q_gd (q_in v2 256) <| q_gd (q_in u1 9) <| q_gd (q_in v2 256) <| q_let (m_sI σ 8 ((v2 : Int32).toNatClampNeg) ((m_I σ 8 ((v2 : Int32).toNatClampNeg)) + (m_I σ 10 ((u1 : Int32).toNatClampNeg)))) fun s18 => q_gd (q_in v2 256) <| (if (m_I s18 7 ((v2 : Int32).toNatClampNeg) : Int32) ≤ (u1 : Int32) then f_M_join_L22 N u1 K n (v2 + 1) s18 else q_gd (q_in v2 256) <| q_gd (q_in v2 256) <| q_let (m_sI s18 7 ((v2 : Int32).toNatClampNeg) ((m_I s18 7 ((v2 : Int32).toNatClampNeg)) - 1)) fun s22 => f_M_join_L22 N u1 K n (v2 + 1) s22)) else q_gd (q_in v2 256) <| (if (m_I σ 7 ((v2 : Int32).toNatClampNeg) : Int32) ≤ (u1 : Int32) then f_M_join_L22 N u1 K n (v2 + 1) σ else q_gd (q_in v2 256) <| q_gd (q_in v2 256) <| q_let (m_sI σ 7 ((v2 : Int32).toNatClampNeg) ((m_I σ 7 ((v2 : Int32).toNatClampNeg)) - 1)) fun s9 => f_M_join_L22 N u1 K n (v2 + 1) s9)))
def f_M_join_L123 (N : Nat) (K : m_T → Option (Int32 × m_T)) : Nat → Int32 → m_T → Option (Int32 × m_T)
  | 0, _, _ => none
  | n + 1, v2, σ =>
    (if (m_S σ 9 : Int32) ≤ (v2 : Int32) then K σ else q_gd (q_in (v2 + 1) 9) <| q_gd (q_in v2 9) <| q_let (m_sI σ 9 ((v2 : Int32).toNatClampNeg) (m_I σ 9 ((v2 + 1 : Int32).toNatClampNeg))) fun s31 => q_gd (q_in (v2 + 1) 9) <| q_gd (q_in v2 9) <| q_let (m_sI s31 10 ((v2 : Int32).toNatClampNeg) (m_I s31 10 ((v2 + 1 : Int32).toNatClampNeg))) fun s34 => f_M_join_L123 N K n (v2 + 1) s34)
def f_M_join (N : Nat) (σ : m_T) (a1 : Int32) : Option (Int32 × m_T) :=
  (f_M_isTablet N σ a1).bind fun r2 => (if (r2 : Int32) = (0 : Int32) then some (0, σ) else (f_M_isTablet N σ (a1 + 1)).bind fun r4 => (if (r4 : Int32) = (0 : Int32) then some (0, σ) else f_M_join_L22 N a1 (fun t23 => q_gd (q_in a1 9) <| q_gd (q_in (a1 + 1) 9) <| q_gd (q_in a1 9) <| q_let (m_sI t23 10 ((a1 : Int32).toNatClampNeg) ((m_I t23 10 ((a1 : Int32).toNatClampNeg)) + (m_I t23 10 ((a1 + 1 : Int32).toNatClampNeg)))) fun s27 => q_let (m_sS s27 9 ((m_S s27 9) - 1)) fun s28 => f_M_join_L123 N (fun t35 => some (1, t35)) N (a1 + 1) s28) N 0 σ))

def f_M_tablet (N : Nat) (σ : m_T) (a1 : Int32) (a2 : Int32) : Option Int32 :=
  (f_M_isTablet N σ a1).bind fun r2 => (if (r2 : Int32) = (0 : Int32) then some (-1) else (if (a2 : Int32) < (0 : Int32) then some (-1) else (if (a2 : Int32) ≤ (3 : Int32) then (if (a2 : Int32) = (0 : Int32) then q_gd (q_in a1 9) <| some (m_I σ 9 ((a1 : Int32).toNatClampNeg)) else (if (a2 : Int32) = (1 : Int32) then (f_M_lastRow N σ a1).bind fun r7 => some r7 else (if (a2 : Int32) = (2 : Int32) then q_gd (q_in a1 9) <| some (m_I σ 10 ((a1 : Int32).toNatClampNeg)) else (f_M_inTable N σ a1 (-1)).bind fun r4 => some r4))) else some (-1))))

def f_M_table_L43 (N : Nat) (σ : m_T) (u1 : Int32) (u2 : Int32) (u3 : Int32) (K : Int32 → Int32 → Option Int32) : Nat → Int32 → Int32 → Int32 → Option Int32
  | 0, _, _, _ => none
  | n + 1, v4, v5, v6 =>
    (if (m_S σ 0 : Int32) ≤ (v6 : Int32) then K v4 v5 else q_gd (q_in v6 256) <| (if (m_I σ 7 ((v6 : Int32).toNatClampNeg) : Int32) = (u1 : Int32) then q_gd (q_in v6 256) <| (if (m_I σ 8 ((v6 : Int32).toNatClampNeg) : Int32) = (u2 : Int32) then q_gd (q_in v6 256) <| (if (m_I σ 1 ((v6 : Int32).toNatClampNeg) : Int32) = (0 : Int32) then q_gd (q_in v6 256) <| (if (v5 : Int32) ≤ (m_I σ 2 ((v6 : Int32).toNatClampNeg) : Int32) then f_M_table_L43 N σ u1 u2 u3 K n (v4 + 0) v5 (v6 + 1) else q_gd (q_in v6 256) <| f_M_table_L43 N σ u1 u2 u3 K n (v4 + 0) (m_I σ 2 ((v6 : Int32).toNatClampNeg)) (v6 + 1)) else q_gd (q_in v6 256) <| (if (v5 : Int32) ≤ (m_I σ 2 ((v6 : Int32).toNatClampNeg) : Int32) then f_M_table_L43 N σ u1 u2 u3 K n (v4 + 1) v5 (v6 + 1) else q_gd (q_in v6 256) <| f_M_table_L43 N σ u1 u2 u3 K n (v4 + 1) (m_I σ 2 ((v6 : Int32).toNatClampNeg)) (v6 + 1))) else f_M_table_L43 N σ u1 u2 u3 K n v4 v5 (v6 + 1)) else f_M_table_L43 N σ u1 u2 u3 K n v4 v5 (v6 + 1)))
def f_M_table (N : Nat) (σ : m_T) (a1 : Int32) (a2 : Int32) (a3 : Int32) : Option Int32 :=
  (f_M_isTablet N σ a1).bind fun r2 => (if (r2 : Int32) = (0 : Int32) then some (-1) else (if (a2 : Int32) < (0 : Int32) then some (-1) else q_gd (q_in a1 9) <| (if (m_I σ 10 ((a1 : Int32).toNatClampNeg) : Int32) ≤ (a2 : Int32) then some (-1) else (if (a3 : Int32) < (0 : Int32) then some (-1) else (if (a3 : Int32) ≤ (3 : Int32) then f_M_table_L43 N σ a1 a2 a3 (fun v4 v5 => (f_M_inTable N σ a1 a2).bind fun r12 => (if (a3 : Int32) = (0 : Int32) then some r12 else (if (a3 : Int32) = (1 : Int32) then some v4 else (if (a3 : Int32) = (2 : Int32) then some ((r12 + 3) / 4) else some v5)))) N 0 64 0 else some (-1))))))

def f_M_log_L31 (N : Nat) (σ : m_T) (u1 : Int32) (u2 : Int32) (K : Int32 → Option Int32) : Nat → Int32 → Int32 → Option Int32
  | 0, _, _ => none
  | n + 1, v3, v4 =>
    (if (u2 : Int32) ≤ (v4 : Int32) then K v3 else (if (v3 : Int32) = (0 : Int32) then f_M_log_L31 N σ u1 u2 K n 0 (v4 + 1) else q_gd (q_in v4 256) <| (if (m_I σ 8 ((v4 : Int32).toNatClampNeg) : Int32) = ((-1) : Int32) then q_gd (q_in v4 256) <| q_gd (q_in u2 256) <| (if (m_I σ 6 ((v4 : Int32).toNatClampNeg) : Int32) = (m_I σ 6 ((u2 : Int32).toNatClampNeg) : Int32) then f_M_log_L31 N σ u1 u2 K n 0 (v4 + 1) else f_M_log_L31 N σ u1 u2 K n 1 (v4 + 1)) else f_M_log_L31 N σ u1 u2 K n 1 (v4 + 1))))
def f_M_log_L4 (N : Nat) (σ : m_T) (K : Int32 → Option Int32) : Nat → Int32 → Int32 → Option Int32
  | 0, _, _ => none
  | n + 1, v1, v2 =>
    (if (m_S σ 0 : Int32) ≤ (v2 : Int32) then K v1 else q_gd (q_in v2 256) <| (if (m_I σ 8 ((v2 : Int32).toNatClampNeg) : Int32) = ((-1) : Int32) then f_M_log_L31 N σ v1 v2 (fun v3 => (if (v3 : Int32) = (0 : Int32) then f_M_log_L4 N σ K n (v1 + 0) (v2 + 1) else f_M_log_L4 N σ K n (v1 + 1) (v2 + 1))) N 1 0 else f_M_log_L31 N σ v1 v2 (fun v3 => (if (v3 : Int32) = (0 : Int32) then f_M_log_L4 N σ K n (v1 + 0) (v2 + 1) else f_M_log_L4 N σ K n (v1 + 1) (v2 + 1))) N 0 0))
def f_M_log (N : Nat) (σ : m_T) : Option Int32 :=
  f_M_log_L4 N σ (fun v1 => some v1) N 0 0

def f_M_looked (N : Nat) (σ : m_T) : Option Int32 :=
  some (m_S σ 31)

noncomputable def f_T_unusedEntry (N : Nat) (σ : x_T) : Option (Option Nat × x_T) :=
  q_gd (q_in (x_S σ 4) 247) <| (q_om (x_E σ (x_S σ 4).toNatClampNeg) (q_gp (x_ok σ) <| q_let (x_sE (x_sN σ) (x_S σ 4).toNatClampNeg (x_N σ)) fun s1 => some (some (x_N σ), s1)) (fun k => some (some k, σ)))
noncomputable def f_T_makeEntry_L47 (N : Nat) (u5 : Nat) (K : x_T → Option (Option Nat × x_T)) : Nat → Int32 → x_T → Option (Option Nat × x_T)
  | 0, _, _ => none
  | n + 1, v6, σ =>
    (if (x_S σ 4 : Int32) ≤ (v6 : Int32) then K σ else q_gd (q_in v6 247) <| (q_om (x_E σ ((v6 : Int32).toNatClampNeg)) none (fun k12 => q_gd (q_lt u5 (x_N σ)) <| (f_E_covers N σ u5 k12).bind fun r15 => (if (r15 : Int32) = (0 : Int32) then f_T_makeEntry_L47 N u5 K n (v6 + 1) σ else q_gd (q_in v6 247) <| (q_om (x_E σ ((v6 : Int32).toNatClampNeg)) none (fun k17 => q_gd (q_lt k17 (x_N σ)) <| q_let (x_sP σ k17 10 1) fun s19 => f_T_makeEntry_L47 N u5 K n (v6 + 1) s19))))))
noncomputable def f_T_makeEntry (N : Nat) (σ : x_T) (a1 : Int32) (a2 : Int32) (a3 : Int32) (a4 : Int32) : Option (Option Nat × x_T) :=
  (if (x_S σ 4 : Int32) < (247 : Int32) then (f_T_unusedEntry N σ).bind fun q2 => (q_om q2.1 (q_let (x_sS q2.2 5 ((x_S q2.2 5) + 1)) fun s5 => none) (fun k3 => q_let (x_sS q2.2 5 ((x_S q2.2 5) + 1)) fun s7 => q_gd (q_lt k3 (x_N s7)) <| (f_E_begin N s7 k3 a1 a2 a3 a4 (x_S s7 5)).bind fun s10 => f_T_makeEntry_L47 N k3 (fun t22 => (f_T_insert N t22 k3).bind fun s24 => some ((some k3), s24)) N 0 s10)) else some (none, σ))

noncomputable def f_T_eraseBeyondNumber (N : Nat) (σ : x_T) (a1 : Int32) (a2 : Int32) : Option x_T :=
  (f_T_familyOf a2).bind fun r2 => q_gd (q_in r2 2) <| (if (x_I σ 1 ((r2 : Int32).toNatClampNeg) : Int32) = (0 : Int32) then some σ else (f_T_liveCell N σ a1 a2 10000 (x_I σ 1 ((r2 : Int32).toNatClampNeg))).bind fun r5 => (q_om r5 (some σ) (fun k6 => q_gd (q_lt k6 (x_N σ)) <| (f_T_makeEntry N σ a1 a2 (x_P σ k6 3) 1).bind fun q9 => (q_om q9.1 (some q9.2) (fun k10 => some q9.2)))))

noncomputable def f_T_applyChange (N : Nat) (σ : x_T) (a1 : Int32) : Option x_T :=
  q_gd (q_in a1 4) <| q_gd (q_in a1 4) <| q_gd (q_in a1 4) <| (f_T_makeEntry N σ (x_S σ 20) (x_I σ 6 ((a1 : Int32).toNatClampNeg)) (x_I σ 7 ((a1 : Int32).toNatClampNeg)) (x_I σ 9 ((a1 : Int32).toNatClampNeg))).bind fun q5 => (q_om q5.1 (some q5.2) (fun k6 => q_gd (q_in a1 4) <| q_gd (q_lt k6 (x_N q5.2)) <| q_let (x_sP q5.2 k6 5 (x_I q5.2 8 ((a1 : Int32).toNatClampNeg))) fun s10 => (if (a1 : Int32) = (0 : Int32) then q_let (x_sP s10 k6 9 1) fun s17 => (if (x_I σ 9 ((a1 : Int32).toNatClampNeg) : Int32) = (0 : Int32) then (f_T_eraseBeyondNumber N s17 (x_S s17 20) (x_I σ 6 ((a1 : Int32).toNatClampNeg))).bind fun s20 => some s20 else some s17) else q_let (x_sP s10 k6 9 0) fun s12 => (if (x_I σ 9 ((a1 : Int32).toNatClampNeg) : Int32) = (0 : Int32) then (f_T_eraseBeyondNumber N s12 (x_S s12 20) (x_I σ 6 ((a1 : Int32).toNatClampNeg))).bind fun s15 => some s15 else some s12))))

noncomputable def f_T_applyChanges_L7 (N : Nat) (u1 : Int32) (K : x_T → Option (Int32 × x_T)) : Nat → Int32 → x_T → Option (Int32 × x_T)
  | 0, _, _ => none
  | n + 1, v2, σ =>
    (if (x_S σ 21 : Int32) ≤ (v2 : Int32) then K σ else (f_T_applyChange N σ v2).bind fun s2 => f_T_applyChanges_L7 N u1 K n (v2 + 1) s2)
noncomputable def f_T_applyChanges (N : Nat) (σ : x_T) : Option (Int32 × x_T) :=
  f_T_applyChanges_L7 N (x_S σ 4) (fun t4 => (f_T_tabletOf N t4 (x_S t4 20)).bind fun r6 => (f_T_entriesIn N t4 r6 (-1)).bind fun r8 => (if (r8 : Int32) < (16 : Int32) then some ((x_S t4 4) - (x_S σ 4), t4) else (f_T_flushTablet N t4 r6).bind fun q10 => some ((x_S t4 4) - (x_S σ 4), q10.2))) N 0 σ

noncomputable def f_T_apply (N : Nat) (σ : x_T) : Option (Int32 × x_T) :=
  (if (x_S σ 21 : Int32) = (0 : Int32) then some ((-1), σ) else (if (x_S σ 4 : Int32) < (240 : Int32) then (if (x_S σ 9 : Int32) = (0 : Int32) then (f_T_isExpectationMet N σ).bind fun r2 => (if (r2 : Int32) = (0 : Int32) then (f_B_empty N σ).bind fun s4 => some (0, s4) else (f_T_applyChanges N σ).bind fun q6 => (f_B_empty N q6.2).bind fun s9 => some (q6.1, s9)) else q_let (x_sS σ 9 0) fun s10 => (f_T_crash N s10).bind fun s12 => some ((-3), s12)) else some ((-2), σ)))
