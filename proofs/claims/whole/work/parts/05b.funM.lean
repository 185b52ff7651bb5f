def mNode (n : Nat) (u : Int32) : Int32 :=
  if u < 0 then (0) else (if (nI n) ≤ u then (0) else (1))
def mPair (n : Nat) (u : Int32) (v : Int32) : Int32 :=
  if (mNode n u) = 0 then (0) else (if (mNode n v) = 0 then (0) else (if u = v then (0) else (1)))
def mJoin (mh : Nat → Int32) (u : Int32) (v : Int32) : Int32 :=
  if (mh ((6 * u) + v).toNatClampNeg) = 0 then (if (mh ((6 * v) + u).toNatClampNeg) = 0 then (0) else (1)) else (1)
def mArrows_L4 (mh : Nat → Int32) : Nat → Nat → Int32 → Int32
  | 0, i_4, c_4 => c_4
  | k_4 + 1, i_4, c_4 => if (mh (nI i_4).toNatClampNeg) = 0 then (mArrows_L4 mh k_4 (i_4 + 1) c_4) else (mArrows_L4 mh k_4 (i_4 + 1) (c_4 + 1))
def mArrows (mh : Nat → Int32) : Int32 :=
  mArrows_L4 mh 36 0 0
def mForgetAll_L2 (mk : Nat → Int32) : Nat → Nat → (Nat → Int32) → (Nat → Int32)
  | 0, i_2, mk_2 => mk_2
  | k_2 + 1, i_2, mk_2 => mForgetAll_L2 mk k_2 (i_2 + 1) (upd mk_2 (nI i_2).toNatClampNeg (vp_nar .boolean 0))
def mForgetAll (mk : Nat → Int32) : (Nat → Int32) :=
  mForgetAll_L2 mk 36 0 mk
def mReach_L27 (n : Nat) (mh : Nat → Int32) (u : Int32) (i_6 : Nat) (st_6 : Int32) (i_15 : Nat) (st_15 : Int32) (kk : (Int32) → Int32) : Nat → Nat → Int32 → Int32
  | 0, i_27, st_27 => kk st_27
  | k_27 + 1, i_27, st_27 => if ((st_27 >>> ((nI i_15) &&& 31)) &&& 1) = 1 then (if (mh ((6 * (nI i_15)) + (nI i_27)).toNatClampNeg) = 0 then (mReach_L27 n mh u i_6 st_6 i_15 st_15 kk k_27 (i_27 + 1) st_27) else (mReach_L27 n mh u i_6 st_6 i_15 st_15 kk k_27 (i_27 + 1) (st_27 ||| (1 <<< ((nI i_27) &&& 31))))) else (kk st_27)
def mReach_L15 (n : Nat) (mh : Nat → Int32) (u : Int32) (i_6 : Nat) (st_6 : Int32) (kk : (Int32) → Int32) : Nat → Nat → Int32 → Int32
  | 0, i_15, st_15 => kk st_15
  | k_15 + 1, i_15, st_15 => mReach_L27 n mh u i_6 st_6 i_15 st_15 (fun w0 => mReach_L15 n mh u i_6 st_6 kk k_15 (i_15 + 1) w0) n 0 st_15
def mReach_L6 (n : Nat) (mh : Nat → Int32) (u : Int32) : Nat → Nat → Int32 → Int32
  | 0, i_6, st_6 => st_6
  | k_6 + 1, i_6, st_6 => mReach_L15 n mh u i_6 st_6 (fun w0 => mReach_L6 n mh u k_6 (i_6 + 1) w0) n 0 st_6
def mReach (n : Nat) (mh : Nat → Int32) (u : Int32) : Int32 :=
  mReach_L6 n mh u 6 0 (1 <<< (u &&& 31))
def mArrow (n : Nat) (mh : Nat → Int32) (mk : Nat → Int32) (u : Int32) (v : Int32) : Int32 × (Nat → Int32) × (Nat → Int32) :=
  if (mPair n u v) = 0 then ((0, mh, mk)) else (if (mJoin mh u v) = 0 then (if (9 : Int32) ≤ (mArrows mh) then ((0, mh, mk)) else (if (((mReach n mh v) >>> (u &&& 31)) &&& 1) = 1 then ((0, mh, mk)) else ((1, upd mh ((6 * u) + v).toNatClampNeg (vp_nar .boolean 1), (mForgetAll mk))))) else ((0, mh, mk)))
def mErase (n : Nat) (mh : Nat → Int32) (mk : Nat → Int32) (u : Int32) (v : Int32) : Int32 × (Nat → Int32) × (Nat → Int32) :=
  if (mPair n u v) = 0 then ((0, mh, mk)) else (if (mh ((6 * u) + v).toNatClampNeg) = 0 then ((0, mh, mk)) else ((1, upd mh ((6 * u) + v).toNatClampNeg (vp_nar .boolean 0), (mForgetAll mk))))
def mTurn (n : Nat) (mh : Nat → Int32) (mk : Nat → Int32) (u : Int32) (v : Int32) : Int32 × (Nat → Int32) × (Nat → Int32) :=
  if (mPair n u v) = 0 then ((0, mh, mk)) else (if (mh ((6 * u) + v).toNatClampNeg) = 0 then ((0, mh, mk)) else (if (((mReach n (upd mh ((6 * u) + v).toNatClampNeg (vp_nar .boolean 0)) u) >>> (v &&& 31)) &&& 1) = 1 then ((0, upd (upd mh ((6 * u) + v).toNatClampNeg (vp_nar .boolean 0)) ((6 * u) + v).toNatClampNeg (vp_nar .boolean 1), mk)) else ((1, upd (upd mh ((6 * u) + v).toNatClampNeg (vp_nar .boolean 0)) ((6 * v) + u).toNatClampNeg (vp_nar .boolean 1), (mForgetAll mk)))))
def mDrawn (n : Nat) (mh : Nat → Int32) (u : Int32) (v : Int32) : Int32 :=
  if (mPair n u v) = 0 then (0) else (if (mh ((6 * u) + v).toNatClampNeg) = 0 then (0) else (1))
def mParents_L14 (n : Nat) (mh : Nat → Int32) (v : Int32) : Nat → Nat → Int32 → Int32
  | 0, i_14, st_14 => st_14
  | k_14 + 1, i_14, st_14 => if (mh ((6 * (nI i_14)) + v).toNatClampNeg) = 0 then (mParents_L14 n mh v k_14 (i_14 + 1) st_14) else (mParents_L14 n mh v k_14 (i_14 + 1) (st_14 + (1 <<< ((nI i_14) &&& 31))))
def mParents (n : Nat) (mh : Nat → Int32) (v : Int32) : Int32 :=
  if (mNode n v) = 0 then (-1) else (mParents_L14 n mh v n 0 0)
def mReached (n : Nat) (mh : Nat → Int32) (u : Int32) : Int32 :=
  if (mNode n u) = 0 then (-1) else ((mReach n mh u))
def mAround_L18 (n : Nat) (mh : Nat → Int32) (u : Int32) : Nat → Nat → Int32 → Int32
  | 0, i_18, st_18 => st_18 &&& ((1 <<< (u &&& 31)) ^^^ (-1))
  | k_18 + 1, i_18, st_18 => if (mh ((6 * u) + (nI i_18)).toNatClampNeg) = 0 then (mAround_L18 n mh u k_18 (i_18 + 1) st_18) else (mAround_L18 n mh u k_18 (i_18 + 1) ((st_18 ||| (1 <<< ((nI i_18) &&& 31))) ||| (mParents n mh (nI i_18))))
def mAround (n : Nat) (mh : Nat → Int32) (u : Int32) : Int32 :=
  if (mNode n u) = 0 then (-1) else (mAround_L18 n mh u n 0 (mParents n mh u))
def mColl1 (fg : Nat → Int32) (a : Int32) (b : Int32) (d : Int32) : Int32 :=
  if (fg ((6 * a) + b).toNatClampNeg) = 0 then (0) else (if (fg ((6 * d) + b).toNatClampNeg) = 0 then (0) else (if (fg ((6 * a) + d).toNatClampNeg) = 0 then (if (fg ((6 * d) + a).toNatClampNeg) = 0 then (1) else (0)) else (0)))
def mColl_L27 (n : Nat) (mh : Nat → Int32) (i_4 : Nat) (c_4 : Int32) (i_14 : Nat) (c_14 : Int32) (kk : (Int32) → Int32) : Nat → Nat → Int32 → Int32
  | 0, i_27, c_27 => kk c_27
  | k_27 + 1, i_27, c_27 => if (mColl1 mh (nI i_14) (nI i_4) (nI i_27)) = 0 then (mColl_L27 n mh i_4 c_4 i_14 c_14 kk k_27 (i_27 + 1) c_27) else (mColl_L27 n mh i_4 c_4 i_14 c_14 kk k_27 (i_27 + 1) (c_27 + 1))
def mColl_L14 (n : Nat) (mh : Nat → Int32) (i_4 : Nat) (c_4 : Int32) (kk : (Int32) → Int32) : Nat → Nat → Int32 → Int32
  | 0, i_14, c_14 => kk c_14
  | k_14 + 1, i_14, c_14 => mColl_L27 n mh i_4 c_4 i_14 c_14 (fun w0 => mColl_L14 n mh i_4 c_4 kk k_14 (i_14 + 1) w0) (n - (i_14 + 1)) (i_14 + 1) c_14
def mColl_L4 (n : Nat) (mh : Nat → Int32) : Nat → Nat → Int32 → Int32
  | 0, i_4, c_4 => c_4
  | k_4 + 1, i_4, c_4 => mColl_L14 n mh i_4 c_4 (fun w0 => mColl_L4 n mh k_4 (i_4 + 1) w0) n 0 c_4
def mColl (n : Nat) (mh : Nat → Int32) : Int32 :=
  mColl_L4 n mh n 0 0
def mCov (n : Nat) (mh : Nat → Int32) (u : Int32) (v : Int32) : Int32 :=
  if (mDrawn n mh u v) = 0 then (0) else (if (mParents n mh v) = ((mParents n mh u) ||| (1 <<< (u &&& 31))) then (1) else (0))
def mSize_L4 (set : Int32) : Nat → Nat → Int32 → Int32
  | 0, i_4, c_4 => c_4
  | k_4 + 1, i_4, c_4 => mSize_L4 set k_4 (i_4 + 1) (c_4 + ((set >>> ((nI i_4) &&& 31)) &&& 1))
def mSize (set : Int32) : Int32 :=
  mSize_L4 set 6 0 0
def mBlocked_L2 (mh : Nat → Int32) (mp : Nat → Int32) (mr : Nat → Int32) (M : Nat) (set : Int32) : Nat → Nat → Int32
  | 0, i_2 => 0
  | k_2 + 1, i_2 => if (mh ((6 * (mp ((nI i_2) - 1).toNatClampNeg)) + (mp (nI i_2).toNatClampNeg)).toNatClampNeg) = 0 then (if ((set >>> ((mp (nI i_2).toNatClampNeg) &&& 31)) &&& 1) = 1 then (1) else (mBlocked_L2 mh mp mr M set k_2 (i_2 + 1))) else (if (mh ((6 * (mp ((nI i_2) + 1).toNatClampNeg)) + (mp (nI i_2).toNatClampNeg)).toNatClampNeg) = 0 then (if ((set >>> ((mp (nI i_2).toNatClampNeg) &&& 31)) &&& 1) = 1 then (1) else (mBlocked_L2 mh mp mr M set k_2 (i_2 + 1))) else (if ((mr (mp (nI i_2).toNatClampNeg).toNatClampNeg) &&& set) = 0 then (1) else (mBlocked_L2 mh mp mr M set k_2 (i_2 + 1))))
def mBlocked (mh : Nat → Int32) (mp : Nat → Int32) (mr : Nat → Int32) (M : Nat) (set : Int32) : Int32 :=
  mBlocked_L2 mh mp mr M set ((M - 1) - 1) 1
def mOnPath_L5 (mp : Nat → Int32) (v : Int32) (M : Nat) : Nat → Nat → Int32 → Int32
  | 0, i_5, f_5 => f_5
  | k_5 + 1, i_5, f_5 => if f_5 = 0 then (if (mp (nI i_5).toNatClampNeg) = v then (mOnPath_L5 mp v M k_5 (i_5 + 1) 1) else (mOnPath_L5 mp v M k_5 (i_5 + 1) 0)) else (mOnPath_L5 mp v M k_5 (i_5 + 1) 1)
def mOnPath (mp : Nat → Int32) (v : Int32) (M : Nat) : Int32 :=
  mOnPath_L5 mp v M M 0 0
def mFind_L19 (n : Nat) (mh : Nat → Int32) (ml : Nat → Int32) (mg : Nat → Int32) (i_7 : Nat) (Q_7 : Nat) (ml_7 : Nat → Int32) (mg_7 : Nat → Int32) (kk : (Nat) → (Nat → Int32) → (Nat → Int32) → Nat × (Nat → Int32) × (Nat → Int32)) : Nat → Nat → Nat → (Nat → Int32) → (Nat → Int32) → Nat × (Nat → Int32) × (Nat → Int32)
  | 0, i_19, Q_19, ml_19, mg_19 => kk Q_19 ml_19 mg_19
  | k_19 + 1, i_19, Q_19, ml_19, mg_19 => if (mJoin mh (nI i_7) (nI i_19)) = 0 then (mFind_L19 n mh ml mg i_7 Q_7 ml_7 mg_7 kk k_19 (i_19 + 1) Q_19 ml_19 mg_19) else (mFind_L19 n mh ml mg i_7 Q_7 ml_7 mg_7 kk k_19 (i_19 + 1) (Q_19 + 1) (upd ml_19 (nI Q_19).toNatClampNeg (nI i_7)) (upd mg_19 (nI Q_19).toNatClampNeg (nI i_19)))
def mFind_L7 (n : Nat) (mh : Nat → Int32) (ml : Nat → Int32) (mg : Nat → Int32) : Nat → Nat → Nat → (Nat → Int32) → (Nat → Int32) → Nat × (Nat → Int32) × (Nat → Int32)
  | 0, i_7, Q_7, ml_7, mg_7 => (Q_7, ml_7, mg_7)
  | k_7 + 1, i_7, Q_7, ml_7, mg_7 => mFind_L19 n mh ml mg i_7 Q_7 ml_7 mg_7 (fun w0 w1 w2 => mFind_L7 n mh ml mg k_7 (i_7 + 1) w0 w1 w2) (n - (i_7 + 1)) (i_7 + 1) Q_7 ml_7 mg_7
def mFind (n : Nat) (mh : Nat → Int32) (ml : Nat → Int32) (mg : Nat → Int32) : Nat × (Nat → Int32) × (Nat → Int32) :=
  mFind_L7 n mh ml mg n 0 0 ml mg
def mDirect_L23 (mt : Nat → Int32) (ml : Nat → Int32) (mg : Nat → Int32) (Q : Nat) (way : Int32) (i_2 : Nat) (mt_2 : Nat → Int32) : Nat → Nat → (Nat → Int32) → (Nat → Int32)
  | 0, i_23, mt_23 => mt_23
  | k_23 + 1, i_23, mt_23 => if ((way >>> ((((nI Q) - 1) - (nI i_23)) &&& 31)) &&& 1) = 0 then (mDirect_L23 mt ml mg Q way i_2 mt_2 k_23 (i_23 + 1) (upd mt_23 ((6 * (ml (nI i_23).toNatClampNeg)) + (mg (nI i_23).toNatClampNeg)).toNatClampNeg (vp_nar .boolean 1))) else (mDirect_L23 mt ml mg Q way i_2 mt_2 k_23 (i_23 + 1) (upd mt_23 ((6 * (mg (nI i_23).toNatClampNeg)) + (ml (nI i_23).toNatClampNeg)).toNatClampNeg (vp_nar .boolean 1)))
def mDirect_L2 (mt : Nat → Int32) (ml : Nat → Int32) (mg : Nat → Int32) (Q : Nat) (way : Int32) : Nat → Nat → (Nat → Int32) → (Nat → Int32)
  | 0, i_2, mt_2 => mDirect_L23 mt ml mg Q way i_2 mt_2 Q 0 mt_2
  | k_2 + 1, i_2, mt_2 => mDirect_L2 mt ml mg Q way k_2 (i_2 + 1) (upd mt_2 (nI i_2).toNatClampNeg (vp_nar .boolean 0))
def mDirect (mt : Nat → Int32) (ml : Nat → Int32) (mg : Nat → Int32) (Q : Nat) (way : Int32) : (Nat → Int32) :=
  mDirect_L2 mt ml mg Q way 36 0 mt
def mRing_L33 (n : Nat) (mt : Nat → Int32) (i_11 : Nat) (le_11 : Int32) (i_19 : Nat) (le_19 : Int32) (kk : (Int32) → Int32) : Nat → Nat → Int32 → Int32
  | 0, i_33, ba_33 => if ba_33 = 0 then (kk le_19) else (kk (le_19 &&& ((1 <<< ((nI i_19) &&& 31)) ^^^ (-1))))
  | k_33 + 1, i_33, ba_33 => if ba_33 = 0 then (mRing_L33 n mt i_11 le_11 i_19 le_19 kk k_33 (i_33 + 1) 0) else (if (mt ((6 * (nI i_33)) + (nI i_19)).toNatClampNeg) = 0 then (mRing_L33 n mt i_11 le_11 i_19 le_19 kk k_33 (i_33 + 1) 1) else (if ((le_19 >>> ((nI i_33) &&& 31)) &&& 1) = 1 then (mRing_L33 n mt i_11 le_11 i_19 le_19 kk k_33 (i_33 + 1) 0) else (mRing_L33 n mt i_11 le_11 i_19 le_19 kk k_33 (i_33 + 1) 1)))
def mRing_L19 (n : Nat) (mt : Nat → Int32) (i_11 : Nat) (le_11 : Int32) (kk : (Int32) → Int32) : Nat → Nat → Int32 → Int32
  | 0, i_19, le_19 => kk le_19
  | k_19 + 1, i_19, le_19 => mRing_L33 n mt i_11 le_11 i_19 le_19 (fun w0 => mRing_L19 n mt i_11 le_11 kk k_19 (i_19 + 1) w0) n 0 1
def mRing_L11 (n : Nat) (mt : Nat → Int32) : Nat → Nat → Int32 → Int32
  | 0, i_11, le_11 => if le_11 = 0 then (0) else (1)
  | k_11 + 1, i_11, le_11 => mRing_L19 n mt i_11 le_11 (fun w0 => mRing_L11 n mt k_11 (i_11 + 1) w0) n 0 le_11
def mRing (n : Nat) (mt : Nat → Int32) : Int32 :=
  mRing_L11 n mt 6 0 ((1 <<< ((nI n) &&& 31)) - 1)
def mMember_L58 (n : Nat) (mh : Nat → Int32) (mk : Nat → Int32) (mt : Nat → Int32) (i_2 : Nat) (i_36 : Nat) (i_46 : Nat) (kk : Unit → Int32) : Nat → Nat → Int32
  | 0, i_58 => kk ()
  | k_58 + 1, i_58 => if (mColl1 mh (nI i_46) (nI i_36) (nI i_58)) = (mColl1 mt (nI i_46) (nI i_36) (nI i_58)) then (mMember_L58 n mh mk mt i_2 i_36 i_46 kk k_58 (i_58 + 1)) else (0)
def mMember_L46 (n : Nat) (mh : Nat → Int32) (mk : Nat → Int32) (mt : Nat → Int32) (i_2 : Nat) (i_36 : Nat) (kk : Unit → Int32) : Nat → Nat → Int32
  | 0, i_46 => kk ()
  | k_46 + 1, i_46 => mMember_L58 n mh mk mt i_2 i_36 i_46 (fun (_ : Unit) => mMember_L46 n mh mk mt i_2 i_36 kk k_46 (i_46 + 1)) (n - (i_46 + 1)) (i_46 + 1)
def mMember_L36 (n : Nat) (mh : Nat → Int32) (mk : Nat → Int32) (mt : Nat → Int32) (i_2 : Nat) : Nat → Nat → Int32
  | 0, i_36 => if (mRing n mt) = 0 then (1) else (0)
  | k_36 + 1, i_36 => mMember_L46 n mh mk mt i_2 i_36 (fun (_ : Unit) => mMember_L36 n mh mk mt i_2 k_36 (i_36 + 1)) n 0
def mMember_L2 (n : Nat) (mh : Nat → Int32) (mk : Nat → Int32) (mt : Nat → Int32) : Nat → Nat → Int32
  | 0, i_2 => mMember_L36 n mh mk mt i_2 n 0
  | k_2 + 1, i_2 => if (mk (nI i_2).toNatClampNeg) = 0 then (mMember_L2 n mh mk mt k_2 (i_2 + 1)) else (if (mt (nI i_2).toNatClampNeg) = 0 then (0) else (mMember_L2 n mh mk mt k_2 (i_2 + 1)))
def mMember (n : Nat) (mh : Nat → Int32) (mk : Nat → Int32) (mt : Nat → Int32) : Int32 :=
  mMember_L2 n mh mk mt 36 0
def mGo_L56 (n : Nat) (mh : Nat → Int32) (mk : Nat → Int32) (mt : Nat → Int32) (mv : Nat → Int32) (mb : Nat → Int32) (ml : Nat → Int32) (mg : Nat → Int32) (mc : Int32) (Q : Nat) (i_11 : Nat) (mv_11 : Nat → Int32) (i_32 : Nat) (mc_32 : Int32) (mv_32 : Nat → Int32) (mb_32 : Nat → Int32) (mt_32 : Nat → Int32) (kk : (Int32) → (Nat → Int32) → (Nat → Int32) → (Nat → Int32) → Nat × (Nat → Int32) × (Nat → Int32) × Int32 × (Nat → Int32) × (Nat → Int32) × (Nat → Int32)) : Nat → Nat → (Nat → Int32) → (Nat → Int32) → Nat × (Nat → Int32) × (Nat → Int32) × Int32 × (Nat → Int32) × (Nat → Int32) × (Nat → Int32)
  | 0, i_56, mv_56, mb_56 => kk (mc_32 + 1) mv_56 mb_56 (mDirect mt_32 ((mFind n mh ml mg).2.1) ((mFind n mh ml mg).2.2) ((mFind n mh ml mg).1) (nI i_32))
  | k_56 + 1, i_56, mv_56, mb_56 => if mc_32 = 0 then (if ((mDirect mt_32 ((mFind n mh ml mg).2.1) ((mFind n mh ml mg).2.2) ((mFind n mh ml mg).1) (nI i_32)) (nI i_56).toNatClampNeg) = 0 then (mGo_L56 n mh mk mt mv mb ml mg mc Q i_11 mv_11 i_32 mc_32 mv_32 mb_32 mt_32 kk k_56 (i_56 + 1) (upd mv_56 (nI i_56).toNatClampNeg (mv_56 (nI i_56).toNatClampNeg)) (upd mb_56 (nI i_56).toNatClampNeg (vp_nar .boolean ((mDirect mt_32 ((mFind n mh ml mg).2.1) ((mFind n mh ml mg).2.2) ((mFind n mh ml mg).1) (nI i_32)) (nI i_56).toNatClampNeg)))) else (mGo_L56 n mh mk mt mv mb ml mg mc Q i_11 mv_11 i_32 mc_32 mv_32 mb_32 mt_32 kk k_56 (i_56 + 1) (upd mv_56 (nI i_56).toNatClampNeg ((mv_56 (nI i_56).toNatClampNeg) + 1)) (upd mb_56 (nI i_56).toNatClampNeg (vp_nar .boolean ((mDirect mt_32 ((mFind n mh ml mg).2.1) ((mFind n mh ml mg).2.2) ((mFind n mh ml mg).1) (nI i_32)) (nI i_56).toNatClampNeg))))) else (if ((mDirect mt_32 ((mFind n mh ml mg).2.1) ((mFind n mh ml mg).2.2) ((mFind n mh ml mg).1) (nI i_32)) (nI i_56).toNatClampNeg) = 0 then (mGo_L56 n mh mk mt mv mb ml mg mc Q i_11 mv_11 i_32 mc_32 mv_32 mb_32 mt_32 kk k_56 (i_56 + 1) (upd mv_56 (nI i_56).toNatClampNeg (mv_56 (nI i_56).toNatClampNeg)) (upd mb_56 (nI i_56).toNatClampNeg (vp_nar .boolean (mb_56 (nI i_56).toNatClampNeg)))) else (mGo_L56 n mh mk mt mv mb ml mg mc Q i_11 mv_11 i_32 mc_32 mv_32 mb_32 mt_32 kk k_56 (i_56 + 1) (upd mv_56 (nI i_56).toNatClampNeg ((mv_56 (nI i_56).toNatClampNeg) + 1)) (upd mb_56 (nI i_56).toNatClampNeg (vp_nar .boolean (mb_56 (nI i_56).toNatClampNeg)))))
def mGo_L32 (n : Nat) (mh : Nat → Int32) (mk : Nat → Int32) (mt : Nat → Int32) (mv : Nat → Int32) (mb : Nat → Int32) (ml : Nat → Int32) (mg : Nat → Int32) (mc : Int32) (Q : Nat) (i_11 : Nat) (mv_11 : Nat → Int32) : Nat → Nat → Int32 → (Nat → Int32) → (Nat → Int32) → (Nat → Int32) → Nat × (Nat → Int32) × (Nat → Int32) × Int32 × (Nat → Int32) × (Nat → Int32) × (Nat → Int32)
  | 0, i_32, mc_32, mv_32, mb_32, mt_32 => (((mFind n mh ml mg).1), (mFind n mh ml mg).2.1, (mFind n mh ml mg).2.2, mc_32, mv_32, mt_32, mb_32)
  | k_32 + 1, i_32, mc_32, mv_32, mb_32, mt_32 => if (mMember n mh mk (mDirect mt_32 ((mFind n mh ml mg).2.1) ((mFind n mh ml mg).2.2) ((mFind n mh ml mg).1) (nI i_32))) = 0 then (mGo_L32 n mh mk mt mv mb ml mg mc Q i_11 mv_11 k_32 (i_32 + 1) mc_32 mv_32 mb_32 (mDirect mt_32 ((mFind n mh ml mg).2.1) ((mFind n mh ml mg).2.2) ((mFind n mh ml mg).1) (nI i_32))) else (mGo_L56 n mh mk mt mv mb ml mg mc Q i_11 mv_11 i_32 mc_32 mv_32 mb_32 mt_32 (fun w0 w1 w2 w3 => mGo_L32 n mh mk mt mv mb ml mg mc Q i_11 mv_11 k_32 (i_32 + 1) w0 w1 w2 w3) 36 0 mv_32 mb_32)
def mGo_L11 (n : Nat) (mh : Nat → Int32) (mk : Nat → Int32) (mt : Nat → Int32) (mv : Nat → Int32) (mb : Nat → Int32) (ml : Nat → Int32) (mg : Nat → Int32) (mc : Int32) (Q : Nat) : Nat → Nat → (Nat → Int32) → Nat × (Nat → Int32) × (Nat → Int32) × Int32 × (Nat → Int32) × (Nat → Int32) × (Nat → Int32)
  | 0, i_11, mv_11 => mGo_L32 n mh mk mt mv mb ml mg mc Q i_11 mv_11 (2 ^ (mFind n mh ml mg).1) 0 0 mv_11 mb mt
  | k_11 + 1, i_11, mv_11 => mGo_L11 n mh mk mt mv mb ml mg mc Q k_11 (i_11 + 1) (upd mv_11 (nI i_11).toNatClampNeg 0)
def mGo (n : Nat) (mh : Nat → Int32) (mk : Nat → Int32) (mt : Nat → Int32) (mv : Nat → Int32) (mb : Nat → Int32) (ml : Nat → Int32) (mg : Nat → Int32) (mc : Int32) (Q : Nat) : Nat × (Nat → Int32) × (Nat → Int32) × Int32 × (Nat → Int32) × (Nat → Int32) × (Nat → Int32) :=
  mGo_L11 n mh mk mt mv mb ml mg mc Q 36 0 mv
def mEdge (n : Nat) (mh : Nat → Int32) (mk : Nat → Int32) (mt : Nat → Int32) (mv : Nat → Int32) (mb : Nat → Int32) (ml : Nat → Int32) (mg : Nat → Int32) (mc : Int32) (Q : Nat) (u : Int32) (v : Int32) : Int32 × Nat × (Nat → Int32) × (Nat → Int32) × Int32 × (Nat → Int32) × (Nat → Int32) × (Nat → Int32) :=
  if (mPair n u v) = 0 then ((0, Q, ml, mg, mc, mv, mt, mb)) else (if (mJoin mh u v) = 0 then ((0, Q, ml, mg, mc, mv, mt, mb)) else (if (((mGo n mh mk mt mv mb ml mg mc Q).2.2.2.2.1) ((6 * u) + v).toNatClampNeg) = ((mGo n mh mk mt mv mb ml mg mc Q).2.2.2.1) then ((1, ((mGo n mh mk mt mv mb ml mg mc Q).1), (mGo n mh mk mt mv mb ml mg mc Q).2.1, (mGo n mh mk mt mv mb ml mg mc Q).2.2.1, (mGo n mh mk mt mv mb ml mg mc Q).2.2.2.1, (mGo n mh mk mt mv mb ml mg mc Q).2.2.2.2.1, (mGo n mh mk mt mv mb ml mg mc Q).2.2.2.2.2.1, (mGo n mh mk mt mv mb ml mg mc Q).2.2.2.2.2.2)) else (if (((mGo n mh mk mt mv mb ml mg mc Q).2.2.2.2.1) ((6 * v) + u).toNatClampNeg) = ((mGo n mh mk mt mv mb ml mg mc Q).2.2.2.1) then ((2, ((mGo n mh mk mt mv mb ml mg mc Q).1), (mGo n mh mk mt mv mb ml mg mc Q).2.1, (mGo n mh mk mt mv mb ml mg mc Q).2.2.1, (mGo n mh mk mt mv mb ml mg mc Q).2.2.2.1, (mGo n mh mk mt mv mb ml mg mc Q).2.2.2.2.1, (mGo n mh mk mt mv mb ml mg mc Q).2.2.2.2.2.1, (mGo n mh mk mt mv mb ml mg mc Q).2.2.2.2.2.2)) else ((3, ((mGo n mh mk mt mv mb ml mg mc Q).1), (mGo n mh mk mt mv mb ml mg mc Q).2.1, (mGo n mh mk mt mv mb ml mg mc Q).2.2.1, (mGo n mh mk mt mv mb ml mg mc Q).2.2.2.1, (mGo n mh mk mt mv mb ml mg mc Q).2.2.2.2.1, (mGo n mh mk mt mv mb ml mg mc Q).2.2.2.2.2.1, (mGo n mh mk mt mv mb ml mg mc Q).2.2.2.2.2.2)))))
def mLoose_L8 (n : Nat) (mh : Nat → Int32) (mk : Nat → Int32) (mt : Nat → Int32) (mv : Nat → Int32) (mb : Nat → Int32) (ml : Nat → Int32) (mg : Nat → Int32) (mc : Int32) (Q : Nat) : Nat → Nat → Int32 → Int32 × Nat × (Nat → Int32) × (Nat → Int32) × Int32 × (Nat → Int32) × (Nat → Int32) × (Nat → Int32)
  | 0, i_8, c_8 => (c_8, ((mGo n mh mk mt mv mb ml mg mc Q).1), (mGo n mh mk mt mv mb ml mg mc Q).2.1, (mGo n mh mk mt mv mb ml mg mc Q).2.2.1, (mGo n mh mk mt mv mb ml mg mc Q).2.2.2.1, (mGo n mh mk mt mv mb ml mg mc Q).2.2.2.2.1, (mGo n mh mk mt mv mb ml mg mc Q).2.2.2.2.2.1, (mGo n mh mk mt mv mb ml mg mc Q).2.2.2.2.2.2)
  | k_8 + 1, i_8, c_8 => if (((mGo n mh mk mt mv mb ml mg mc Q).2.2.2.2.1) ((6 * (((mGo n mh mk mt mv mb ml mg mc Q).2.1) (nI i_8).toNatClampNeg)) + (((mGo n mh mk mt mv mb ml mg mc Q).2.2.1) (nI i_8).toNatClampNeg)).toNatClampNeg) ≤ 0 then (mLoose_L8 n mh mk mt mv mb ml mg mc Q k_8 (i_8 + 1) c_8) else (if ((mGo n mh mk mt mv mb ml mg mc Q).2.2.2.1) ≤ (((mGo n mh mk mt mv mb ml mg mc Q).2.2.2.2.1) ((6 * (((mGo n mh mk mt mv mb ml mg mc Q).2.1) (nI i_8).toNatClampNeg)) + (((mGo n mh mk mt mv mb ml mg mc Q).2.2.1) (nI i_8).toNatClampNeg)).toNatClampNeg) then (mLoose_L8 n mh mk mt mv mb ml mg mc Q k_8 (i_8 + 1) c_8) else (mLoose_L8 n mh mk mt mv mb ml mg mc Q k_8 (i_8 + 1) (c_8 + 1)))
def mLoose (n : Nat) (mh : Nat → Int32) (mk : Nat → Int32) (mt : Nat → Int32) (mv : Nat → Int32) (mb : Nat → Int32) (ml : Nat → Int32) (mg : Nat → Int32) (mc : Int32) (Q : Nat) : Int32 × Nat × (Nat → Int32) × (Nat → Int32) × Int32 × (Nat → Int32) × (Nat → Int32) × (Nat → Int32) :=
  mLoose_L8 n mh mk mt mv mb ml mg mc Q ((mGo n mh mk mt mv mb ml mg mc Q).1) 0 0
def mKnow (n : Nat) (mh : Nat → Int32) (mk : Nat → Int32) (mt : Nat → Int32) (mv : Nat → Int32) (mb : Nat → Int32) (ml : Nat → Int32) (mg : Nat → Int32) (mc : Int32) (Q : Nat) (u : Int32) (v : Int32) : Int32 × (Nat → Int32) × Nat × (Nat → Int32) × (Nat → Int32) × Int32 × (Nat → Int32) × (Nat → Int32) × (Nat → Int32) :=
  if (mPair n u v) = 0 then ((0, mk, Q, ml, mg, mc, mv, mt, mb)) else (if (((mGo n mh mk mt mv mb ml mg mc Q).2.2.2.2.1) ((6 * u) + v).toNatClampNeg) = 0 then ((0, mk, ((mGo n mh mk mt mv mb ml mg mc Q).1), (mGo n mh mk mt mv mb ml mg mc Q).2.1, (mGo n mh mk mt mv mb ml mg mc Q).2.2.1, (mGo n mh mk mt mv mb ml mg mc Q).2.2.2.1, (mGo n mh mk mt mv mb ml mg mc Q).2.2.2.2.1, (mGo n mh mk mt mv mb ml mg mc Q).2.2.2.2.2.1, (mGo n mh mk mt mv mb ml mg mc Q).2.2.2.2.2.2)) else ((1, upd mk ((6 * u) + v).toNatClampNeg (vp_nar .boolean 1), ((mGo n mh mk mt mv mb ml mg mc Q).1), (mGo n mh mk mt mv mb ml mg mc Q).2.1, (mGo n mh mk mt mv mb ml mg mc Q).2.2.1, (mGo n mh mk mt mv mb ml mg mc Q).2.2.2.1, (mGo n mh mk mt mv mb ml mg mc Q).2.2.2.2.1, (mGo n mh mk mt mv mb ml mg mc Q).2.2.2.2.2.1, (mGo n mh mk mt mv mb ml mg mc Q).2.2.2.2.2.2)))
def mForget_L4 (mk : Nat → Int32) : Nat → Nat → Int32 → Int32 × (Nat → Int32)
  | 0, i_4, c_4 => (c_4, (mForgetAll mk))
  | k_4 + 1, i_4, c_4 => if (mk (nI i_4).toNatClampNeg) = 0 then (mForget_L4 mk k_4 (i_4 + 1) c_4) else (mForget_L4 mk k_4 (i_4 + 1) (c_4 + 1))
def mForget (mk : Nat → Int32) : Int32 × (Nat → Int32) :=
  mForget_L4 mk 36 0 0
def mMembers (n : Nat) (mh : Nat → Int32) (mk : Nat → Int32) (mt : Nat → Int32) (mv : Nat → Int32) (mb : Nat → Int32) (ml : Nat → Int32) (mg : Nat → Int32) (mc : Int32) (Q : Nat) : Int32 × Nat × (Nat → Int32) × (Nat → Int32) × Int32 × (Nat → Int32) × (Nat → Int32) × (Nat → Int32) :=
  ((mGo n mh mk mt mv mb ml mg mc Q).2.2.2.1, ((mGo n mh mk mt mv mb ml mg mc Q).1), (mGo n mh mk mt mv mb ml mg mc Q).2.1, (mGo n mh mk mt mv mb ml mg mc Q).2.2.1, (mGo n mh mk mt mv mb ml mg mc Q).2.2.2.1, (mGo n mh mk mt mv mb ml mg mc Q).2.2.2.2.1, (mGo n mh mk mt mv mb ml mg mc Q).2.2.2.2.2.1, (mGo n mh mk mt mv mb ml mg mc Q).2.2.2.2.2.2)
def mFirst (n : Nat) (mh : Nat → Int32) (mk : Nat → Int32) (mt : Nat → Int32) (mv : Nat → Int32) (mb : Nat → Int32) (ml : Nat → Int32) (mg : Nat → Int32) (mc : Int32) (Q : Nat) (u : Int32) (v : Int32) : Int32 × Nat × (Nat → Int32) × (Nat → Int32) × Int32 × (Nat → Int32) × (Nat → Int32) × (Nat → Int32) :=
  if (mPair n u v) = 0 then ((0, Q, ml, mg, mc, mv, mt, mb)) else ((((mGo n mh mk mt mv mb ml mg mc Q).2.2.2.2.2.2) ((6 * u) + v).toNatClampNeg, ((mGo n mh mk mt mv mb ml mg mc Q).1), (mGo n mh mk mt mv mb ml mg mc Q).2.1, (mGo n mh mk mt mv mb ml mg mc Q).2.2.1, (mGo n mh mk mt mv mb ml mg mc Q).2.2.2.1, (mGo n mh mk mt mv mb ml mg mc Q).2.2.2.2.1, (mGo n mh mk mt mv mb ml mg mc Q).2.2.2.2.2.1, (mGo n mh mk mt mv mb ml mg mc Q).2.2.2.2.2.2))
def mTurned_L18 (n : Nat) (mh : Nat → Int32) (mk : Nat → Int32) (mt : Nat → Int32) (mv : Nat → Int32) (mb : Nat → Int32) (ml : Nat → Int32) (mg : Nat → Int32) (mc : Int32) (Q : Nat) (i_8 : Nat) (c_8 : Int32) (kk : (Int32) → Int32 × Nat × (Nat → Int32) × (Nat → Int32) × Int32 × (Nat → Int32) × (Nat → Int32) × (Nat → Int32)) : Nat → Nat → Int32 → Int32 × Nat × (Nat → Int32) × (Nat → Int32) × Int32 × (Nat → Int32) × (Nat → Int32) × (Nat → Int32)
  | 0, i_18, c_18 => kk c_18
  | k_18 + 1, i_18, c_18 => if (mh ((6 * (nI i_8)) + (nI i_18)).toNatClampNeg) = 0 then (mTurned_L18 n mh mk mt mv mb ml mg mc Q i_8 c_8 kk k_18 (i_18 + 1) c_18) else (if (((mGo n mh mk mt mv mb ml mg mc Q).2.2.2.2.2.2) ((6 * (nI i_18)) + (nI i_8)).toNatClampNeg) = 0 then (mTurned_L18 n mh mk mt mv mb ml mg mc Q i_8 c_8 kk k_18 (i_18 + 1) c_18) else (mTurned_L18 n mh mk mt mv mb ml mg mc Q i_8 c_8 kk k_18 (i_18 + 1) (c_18 + 1)))
def mTurned_L8 (n : Nat) (mh : Nat → Int32) (mk : Nat → Int32) (mt : Nat → Int32) (mv : Nat → Int32) (mb : Nat → Int32) (ml : Nat → Int32) (mg : Nat → Int32) (mc : Int32) (Q : Nat) : Nat → Nat → Int32 → Int32 × Nat × (Nat → Int32) × (Nat → Int32) × Int32 × (Nat → Int32) × (Nat → Int32) × (Nat → Int32)
  | 0, i_8, c_8 => (c_8, ((mGo n mh mk mt mv mb ml mg mc Q).1), (mGo n mh mk mt mv mb ml mg mc Q).2.1, (mGo n mh mk mt mv mb ml mg mc Q).2.2.1, (mGo n mh mk mt mv mb ml mg mc Q).2.2.2.1, (mGo n mh mk mt mv mb ml mg mc Q).2.2.2.2.1, (mGo n mh mk mt mv mb ml mg mc Q).2.2.2.2.2.1, (mGo n mh mk mt mv mb ml mg mc Q).2.2.2.2.2.2)
  | k_8 + 1, i_8, c_8 => mTurned_L18 n mh mk mt mv mb ml mg mc Q i_8 c_8 (fun w0 => mTurned_L8 n mh mk mt mv mb ml mg mc Q k_8 (i_8 + 1) w0) n 0 c_8
def mTurned (n : Nat) (mh : Nat → Int32) (mk : Nat → Int32) (mt : Nat → Int32) (mv : Nat → Int32) (mb : Nat → Int32) (ml : Nat → Int32) (mg : Nat → Int32) (mc : Int32) (Q : Nat) : Int32 × Nat × (Nat → Int32) × (Nat → Int32) × Int32 × (Nat → Int32) × (Nat → Int32) × (Nat → Int32) :=
  mTurned_L8 n mh mk mt mv mb ml mg mc Q n 0 0
def mAll_L48 (n : Nat) (mh : Nat → Int32) (mp : Nat → Int32) (mx : Nat → Int32) (mr : Nat → Int32) (x0 : Int32) (y0 : Int32) (set : Int32) (K : Nat) (i_3 : Nat) (mr_3 : Nat → Int32) : Nat → Nat → (Nat → Int32) → (Nat → Int32) → Option (Int32 × (Nat → Int32) × (Nat → Int32) × (Nat → Int32))
  | 0, M_48, mp_48, mx_48 => none
  | k_48 + 1, M_48, mp_48, mx_48 => if (nI M_48) ≤ 0 then (some (1, mp_48, mx_48, mr_3)) else (if (mx_48 ((nI M_48) - 1).toNatClampNeg) = (nI n) then (if (mp_48 ((nI M_48) - 1).toNatClampNeg) = y0 then (if (mBlocked mh mp_48 mr_3 M_48 set) = 0 then (some (0, mp_48, mx_48, mr_3)) else (mAll_L48 n mh mp mx mr x0 y0 set K i_3 mr_3 k_48 (M_48 - 1) mp_48 mx_48)) else (mAll_L48 n mh mp mx mr x0 y0 set K i_3 mr_3 k_48 (M_48 - 1) mp_48 mx_48)) else (if (mp_48 ((nI M_48) - 1).toNatClampNeg) = y0 then (if (mBlocked mh mp_48 mr_3 M_48 set) = 0 then (some (0, mp_48, mx_48, mr_3)) else (mAll_L48 n mh mp mx mr x0 y0 set K i_3 mr_3 k_48 (M_48 - 1) mp_48 mx_48)) else (if (mJoin mh (mp_48 ((nI M_48) - 1).toNatClampNeg) (mx_48 ((nI M_48) - 1).toNatClampNeg)) = 0 then (mAll_L48 n mh mp mx mr x0 y0 set K i_3 mr_3 k_48 M_48 mp_48 (upd mx_48 ((nI M_48) - 1).toNatClampNeg ((mx_48 ((nI M_48) - 1).toNatClampNeg) + 1))) else (if (mOnPath mp_48 (mx_48 ((nI M_48) - 1).toNatClampNeg) M_48) = 0 then (mAll_L48 n mh mp mx mr x0 y0 set K i_3 mr_3 k_48 (M_48 + 1) (upd mp_48 (nI M_48).toNatClampNeg (mx_48 ((nI M_48) - 1).toNatClampNeg)) (upd (upd mx_48 ((nI M_48) - 1).toNatClampNeg ((mx_48 ((nI M_48) - 1).toNatClampNeg) + 1)) (nI M_48).toNatClampNeg 0)) else (mAll_L48 n mh mp mx mr x0 y0 set K i_3 mr_3 k_48 M_48 mp_48 (upd mx_48 ((nI M_48) - 1).toNatClampNeg ((mx_48 ((nI M_48) - 1).toNatClampNeg) + 1)))))))
def mAll_L3 (n : Nat) (mh : Nat → Int32) (mp : Nat → Int32) (mx : Nat → Int32) (mr : Nat → Int32) (x0 : Int32) (y0 : Int32) (set : Int32) (K : Nat) : Nat → Nat → (Nat → Int32) → Option (Int32 × (Nat → Int32) × (Nat → Int32) × (Nat → Int32))
  | 0, i_3, mr_3 => mAll_L48 n mh mp mx mr x0 y0 set K i_3 mr_3 K 1 (upd mp (0 : Int32).toNatClampNeg x0) (upd mx (0 : Int32).toNatClampNeg 0)
  | k_3 + 1, i_3, mr_3 => mAll_L3 n mh mp mx mr x0 y0 set K k_3 (i_3 + 1) (upd mr_3 (nI i_3).toNatClampNeg (mReach n mh (nI i_3)))
def mAll (n : Nat) (mh : Nat → Int32) (mp : Nat → Int32) (mx : Nat → Int32) (mr : Nat → Int32) (x0 : Int32) (y0 : Int32) (set : Int32) (K : Nat) : Option (Int32 × (Nat → Int32) × (Nat → Int32) × (Nat → Int32)) :=
  mAll_L3 n mh mp mx mr x0 y0 set K n 0 mr
noncomputable def mAllT (n : Nat) (mh mp mx mr : Nat → Int32) (x0 y0 set : Int32) : Int32 × (Nat → Int32) × (Nat → Int32) × (Nat → Int32) := Classical.epsilon (fun rr => ∃ K, mAll n mh mp mx mr x0 y0 set K = some rr)
noncomputable def mSep (n : Nat) (mh : Nat → Int32) (mp : Nat → Int32) (mx : Nat → Int32) (mr : Nat → Int32) (x0 : Int32) (y0 : Int32) (set : Int32) : Int32 × (Nat → Int32) × (Nat → Int32) × (Nat → Int32) :=
  if (mPair n x0 y0) = 0 then ((0, mp, mx, mr)) else (if set < 0 then ((0, mp, mx, mr)) else (if (1 <<< ((nI n) &&& 31)) ≤ set then ((0, mp, mx, mr)) else (if ((set >>> (x0 &&& 31)) &&& 1) = 1 then ((0, mp, mx, mr)) else (if ((set >>> (y0 &&& 31)) &&& 1) = 1 then ((0, mp, mx, mr)) else (((mAllT n mh mp mx mr x0 y0 set).1, (mAllT n mh mp mx mr x0 y0 set).2.1, (mAllT n mh mp mx mr x0 y0 set).2.2.1, (mAllT n mh mp mx mr x0 y0 set).2.2.2))))))
noncomputable def mSepr_L24 (n : Nat) (mh : Nat → Int32) (mp : Nat → Int32) (mx : Nat → Int32) (mr : Nat → Int32) (x0 : Int32) (y0 : Int32) (i_13 : Nat) (mp_13 : Nat → Int32) (mx_13 : Nat → Int32) (mr_13 : Nat → Int32) (kk : (Nat → Int32) → (Nat → Int32) → (Nat → Int32) → Int32 × (Nat → Int32) × (Nat → Int32) × (Nat → Int32)) : Nat → Nat → (Nat → Int32) → (Nat → Int32) → (Nat → Int32) → Int32 × (Nat → Int32) × (Nat → Int32) × (Nat → Int32)
  | 0, i_24, mp_24, mx_24, mr_24 => kk mp_24 mx_24 mr_24
  | k_24 + 1, i_24, mp_24, mx_24, mr_24 => if (mSize (nI i_24)) = (nI i_13) then (if ((mSep n mh mp_24 mx_24 mr_24 x0 y0 (nI i_24)).1) = 0 then (mSepr_L24 n mh mp mx mr x0 y0 i_13 mp_13 mx_13 mr_13 kk k_24 (i_24 + 1) ((mSep n mh mp_24 mx_24 mr_24 x0 y0 (nI i_24)).2.1) ((mSep n mh mp_24 mx_24 mr_24 x0 y0 (nI i_24)).2.2.1) ((mSep n mh mp_24 mx_24 mr_24 x0 y0 (nI i_24)).2.2.2)) else ((nI i_24, (mSep n mh mp_24 mx_24 mr_24 x0 y0 (nI i_24)).2.1, (mSep n mh mp_24 mx_24 mr_24 x0 y0 (nI i_24)).2.2.1, (mSep n mh mp_24 mx_24 mr_24 x0 y0 (nI i_24)).2.2.2))) else (mSepr_L24 n mh mp mx mr x0 y0 i_13 mp_13 mx_13 mr_13 kk k_24 (i_24 + 1) mp_24 mx_24 mr_24)
noncomputable def mSepr_L13 (n : Nat) (mh : Nat → Int32) (mp : Nat → Int32) (mx : Nat → Int32) (mr : Nat → Int32) (x0 : Int32) (y0 : Int32) : Nat → Nat → (Nat → Int32) → (Nat → Int32) → (Nat → Int32) → Int32 × (Nat → Int32) × (Nat → Int32) × (Nat → Int32)
  | 0, i_13, mp_13, mx_13, mr_13 => (-1, mp_13, mx_13, mr_13)
  | k_13 + 1, i_13, mp_13, mx_13, mr_13 => mSepr_L24 n mh mp mx mr x0 y0 i_13 mp_13 mx_13 mr_13 (fun w0 w1 w2 => mSepr_L13 n mh mp mx mr x0 y0 k_13 (i_13 + 1) w0 w1 w2) (2 ^ n) 0 mp_13 mx_13 mr_13
noncomputable def mSepr (n : Nat) (mh : Nat → Int32) (mp : Nat → Int32) (mx : Nat → Int32) (mr : Nat → Int32) (x0 : Int32) (y0 : Int32) : Int32 × (Nat → Int32) × (Nat → Int32) × (Nat → Int32) :=
  if (mPair n x0 y0) = 0 then ((-1, mp, mx, mr)) else (mSepr_L13 n mh mp mx mr x0 y0 (n + 1) 0 mp mx mr)
noncomputable def mSeps_L27 (n : Nat) (mh : Nat → Int32) (mp : Nat → Int32) (mx : Nat → Int32) (mr : Nat → Int32) (i_4 : Nat) (c_4 : Int32) (mp_4 : Nat → Int32) (mx_4 : Nat → Int32) (mr_4 : Nat → Int32) (i_16 : Nat) (c_16 : Int32) (mp_16 : Nat → Int32) (mx_16 : Nat → Int32) (mr_16 : Nat → Int32) (kk : (Int32) → (Nat → Int32) → (Nat → Int32) → (Nat → Int32) → Int32 × (Nat → Int32) × (Nat → Int32) × (Nat → Int32)) : Nat → Nat → Int32 → (Nat → Int32) → (Nat → Int32) → (Nat → Int32) → Int32 × (Nat → Int32) × (Nat → Int32) × (Nat → Int32)
  | 0, i_27, c_27, mp_27, mx_27, mr_27 => kk c_27 mp_27 mx_27 mr_27
  | k_27 + 1, i_27, c_27, mp_27, mx_27, mr_27 => if ((mSep n mh mp_27 mx_27 mr_27 (nI i_4) (nI i_16) (nI i_27)).1) = 0 then (mSeps_L27 n mh mp mx mr i_4 c_4 mp_4 mx_4 mr_4 i_16 c_16 mp_16 mx_16 mr_16 kk k_27 (i_27 + 1) c_27 ((mSep n mh mp_27 mx_27 mr_27 (nI i_4) (nI i_16) (nI i_27)).2.1) ((mSep n mh mp_27 mx_27 mr_27 (nI i_4) (nI i_16) (nI i_27)).2.2.1) ((mSep n mh mp_27 mx_27 mr_27 (nI i_4) (nI i_16) (nI i_27)).2.2.2)) else (mSeps_L27 n mh mp mx mr i_4 c_4 mp_4 mx_4 mr_4 i_16 c_16 mp_16 mx_16 mr_16 kk k_27 (i_27 + 1) (c_27 + 1) ((mSep n mh mp_27 mx_27 mr_27 (nI i_4) (nI i_16) (nI i_27)).2.1) ((mSep n mh mp_27 mx_27 mr_27 (nI i_4) (nI i_16) (nI i_27)).2.2.1) ((mSep n mh mp_27 mx_27 mr_27 (nI i_4) (nI i_16) (nI i_27)).2.2.2))
noncomputable def mSeps_L16 (n : Nat) (mh : Nat → Int32) (mp : Nat → Int32) (mx : Nat → Int32) (mr : Nat → Int32) (i_4 : Nat) (c_4 : Int32) (mp_4 : Nat → Int32) (mx_4 : Nat → Int32) (mr_4 : Nat → Int32) (kk : (Int32) → (Nat → Int32) → (Nat → Int32) → (Nat → Int32) → Int32 × (Nat → Int32) × (Nat → Int32) × (Nat → Int32)) : Nat → Nat → Int32 → (Nat → Int32) → (Nat → Int32) → (Nat → Int32) → Int32 × (Nat → Int32) × (Nat → Int32) × (Nat → Int32)
  | 0, i_16, c_16, mp_16, mx_16, mr_16 => kk c_16 mp_16 mx_16 mr_16
  | k_16 + 1, i_16, c_16, mp_16, mx_16, mr_16 => mSeps_L27 n mh mp mx mr i_4 c_4 mp_4 mx_4 mr_4 i_16 c_16 mp_16 mx_16 mr_16 (fun w0 w1 w2 w3 => mSeps_L16 n mh mp mx mr i_4 c_4 mp_4 mx_4 mr_4 kk k_16 (i_16 + 1) w0 w1 w2 w3) (2 ^ n) 0 c_16 mp_16 mx_16 mr_16
noncomputable def mSeps_L4 (n : Nat) (mh : Nat → Int32) (mp : Nat → Int32) (mx : Nat → Int32) (mr : Nat → Int32) : Nat → Nat → Int32 → (Nat → Int32) → (Nat → Int32) → (Nat → Int32) → Int32 × (Nat → Int32) × (Nat → Int32) × (Nat → Int32)
  | 0, i_4, c_4, mp_4, mx_4, mr_4 => (c_4, mp_4, mx_4, mr_4)
  | k_4 + 1, i_4, c_4, mp_4, mx_4, mr_4 => mSeps_L16 n mh mp mx mr i_4 c_4 mp_4 mx_4 mr_4 (fun w0 w1 w2 w3 => mSeps_L4 n mh mp mx mr k_4 (i_4 + 1) w0 w1 w2 w3) (n - (i_4 + 1)) (i_4 + 1) c_4 mp_4 mx_4 mr_4
noncomputable def mSeps (n : Nat) (mh : Nat → Int32) (mp : Nat → Int32) (mx : Nat → Int32) (mr : Nat → Int32) : Int32 × (Nat → Int32) × (Nat → Int32) × (Nat → Int32) :=
  mSeps_L4 n mh mp mx mr n 0 0 mp mx mr
