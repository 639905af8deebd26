/-! CASES THAT WRITE, II: files, links, places, promises -/
section WRITE
variable {j k t f e h tr : Nat} {K S O L A B P HF HE HO hd : Nat → Nat} {cO mown nF nE mfiles mentr uO mholds p1 p2 p3 : Int32} {nO nL nA nC nV nU nP mprom mlinks mblocks mvals mowner uF uE uN mheld mends mopen cK mkinds mkept mshot cQ mquot : Nat → Int32} {oL : Nat → Int64}
theorem sm4_un {P : Nat → Nat} {o q : Nat} (ho : o < 4) : sm (un P o q) 4 + P o = sm P 4 + q := by
  have h := sm_upd (f := P) (g := un P o q) (n := 4) (k := o) ho (fun i _ hne => (un_ne hne).symm)
  rw [un_at] at h
  exact h
/-- how many blocks are free -/
def frN (t : Nat) (B K S : Nat → Nat) : Nat := cn (fun b => usr t B K S b == 0) 64
theorem frN_le (t : Nat) (B K S : Nat → Nat) : frN t B K S ≤ 64 := cn_le _ _
theorem C_freeN (ht : t ≤ 30) (hU : US t B K S nU) : f_S_freeTotal nU = some (nI (frN t B K S)) := S_freeTotal_ok (U := usr t B K S) (fun b hb => ⟨hU b hb, by have := usr_le ht B K S b; omega⟩)
end WRITE
