/-! each method's table rows, and its call -/
theorem ct_mk {k n : Nat} {args L : List Value} {w : mW} {g : mG} {Q : mW → mO → Prop} (h1 : m_l k = n) (h2 : (m_gc k, m_gs k, m_al k) = g) (h3 : l_in args ++ List.replicate (n - (l_in args).length) .null = L) (h4 : (l_in args).length ≤ n) (h : RT k 0 L [] w g Q) : CT k args w Q := by
  subst h1; subst h2; subst h3
  exact ⟨h4, h⟩
theorem ml_X0_init : m_l n_X0_init = 2 := by decide +kernel
theorem mr_X0_init : m_r n_X0_init = none := by decide +kernel
theorem mh_X0_init : m_hh n_X0_init = [] := by decide +kernel
theorem mg_X0_init : (m_gc n_X0_init, m_gs n_X0_init, m_al n_X0_init) = (145, 3024, true) := by decide +kernel
theorem ct_X0_init {b : Nat} {w : mW} {Q : mW → mO → Prop} (h : RT n_X0_init 0 [.ref b, .null] [] w (145, 3024, true) Q) : CT n_X0_init [.ref b] w Q := ct_mk ml_X0_init mg_X0_init rfl (Nat.le_of_ble_eq_true rfl) h
theorem ml_X0_forgetAll : m_l n_X0_forgetAll = 1 := by decide +kernel
theorem mr_X0_forgetAll : m_r n_X0_forgetAll = none := by decide +kernel
theorem mh_X0_forgetAll : m_hh n_X0_forgetAll = [] := by decide +kernel
theorem mg_X0_forgetAll : (m_gc n_X0_forgetAll, m_gs n_X0_forgetAll, m_al n_X0_forgetAll) = (0, 0, false) := by decide +kernel
theorem ct_X0_forgetAll {b : Nat} {w : mW} {Q : mW → mO → Prop} (h : RT n_X0_forgetAll 0 [.ref b] [] w (0, 0, false) Q) : CT n_X0_forgetAll [.ref b] w Q := ct_mk ml_X0_forgetAll mg_X0_forgetAll rfl (Nat.le_of_ble_eq_true rfl) h
theorem ml_X0_keep : m_l n_X0_keep = 2 := by decide +kernel
theorem mr_X0_keep : m_r n_X0_keep = none := by decide +kernel
theorem mh_X0_keep : m_hh n_X0_keep = [] := by decide +kernel
theorem mg_X0_keep : (m_gc n_X0_keep, m_gs n_X0_keep, m_al n_X0_keep) = (0, 0, false) := by decide +kernel
theorem ct_X0_keep {b : Nat} {r0 : Nat} {w : mW} {Q : mW → mO → Prop} (h : RT n_X0_keep 0 [.ref b, .ref r0] [] w (0, 0, false) Q) : CT n_X0_keep [.ref b, .ref r0] w Q := ct_mk ml_X0_keep mg_X0_keep rfl (Nat.le_of_ble_eq_true rfl) h
theorem ml_X1_init : m_l n_X1_init = 1 := by decide +kernel
theorem mr_X1_init : m_r n_X1_init = none := by decide +kernel
theorem mh_X1_init : m_hh n_X1_init = [] := by decide +kernel
theorem mg_X1_init : (m_gc n_X1_init, m_gs n_X1_init, m_al n_X1_init) = (1, 900, true) := by decide +kernel
theorem ct_X1_init {b : Nat} {w : mW} {Q : mW → mO → Prop} (h : RT n_X1_init 0 [.ref b] [] w (1, 900, true) Q) : CT n_X1_init [.ref b] w Q := ct_mk ml_X1_init mg_X1_init rfl (Nat.le_of_ble_eq_true rfl) h
theorem ml_X1_addNumber : m_l n_X1_addNumber = 2 := by decide +kernel
theorem mr_X1_addNumber : m_r n_X1_addNumber = none := by decide +kernel
theorem mh_X1_addNumber : m_hh n_X1_addNumber = [] := by decide +kernel
theorem mg_X1_addNumber : (m_gc n_X1_addNumber, m_gs n_X1_addNumber, m_al n_X1_addNumber) = (0, 0, false) := by decide +kernel
theorem ct_X1_addNumber {b : Nat} {x0 : Int32} {w : mW} {Q : mW → mO → Prop} (h : RT n_X1_addNumber 0 [.ref b, .int x0] [] w (0, 0, false) Q) : CT n_X1_addNumber [.ref b, .int x0] w Q := ct_mk ml_X1_addNumber mg_X1_addNumber rfl (Nat.le_of_ble_eq_true rfl) h
theorem ml_X1_addByte : m_l n_X1_addByte = 2 := by decide +kernel
theorem mr_X1_addByte : m_r n_X1_addByte = none := by decide +kernel
theorem mh_X1_addByte : m_hh n_X1_addByte = [] := by decide +kernel
theorem mg_X1_addByte : (m_gc n_X1_addByte, m_gs n_X1_addByte, m_al n_X1_addByte) = (0, 0, false) := by decide +kernel
theorem ct_X1_addByte {b : Nat} {x0 : Int32} {w : mW} {Q : mW → mO → Prop} (h : RT n_X1_addByte 0 [.ref b, .int x0] [] w (0, 0, false) Q) : CT n_X1_addByte [.ref b, .int x0] w Q := ct_mk ml_X1_addByte mg_X1_addByte rfl (Nat.le_of_ble_eq_true rfl) h
theorem ml_X1_byteAt : m_l n_X1_byteAt = 2 := by decide +kernel
theorem mr_X1_byteAt : m_r n_X1_byteAt = some .int := by decide +kernel
theorem mh_X1_byteAt : m_hh n_X1_byteAt = [] := by decide +kernel
theorem mg_X1_byteAt : (m_gc n_X1_byteAt, m_gs n_X1_byteAt, m_al n_X1_byteAt) = (0, 0, false) := by decide +kernel
theorem ct_X1_byteAt {b : Nat} {x0 : Int32} {w : mW} {Q : mW → mO → Prop} (h : RT n_X1_byteAt 0 [.ref b, .int x0] [] w (0, 0, false) Q) : CT n_X1_byteAt [.ref b, .int x0] w Q := ct_mk ml_X1_byteAt mg_X1_byteAt rfl (Nat.le_of_ble_eq_true rfl) h
theorem ml_X2_init : m_l n_X2_init = 1 := by decide +kernel
theorem mr_X2_init : m_r n_X2_init = none := by decide +kernel
theorem mh_X2_init : m_hh n_X2_init = [] := by decide +kernel
theorem mg_X2_init : (m_gc n_X2_init, m_gs n_X2_init, m_al n_X2_init) = (11, 237, true) := by decide +kernel
theorem ct_X2_init {b : Nat} {w : mW} {Q : mW → mO → Prop} (h : RT n_X2_init 0 [.ref b] [] w (11, 237, true) Q) : CT n_X2_init [.ref b] w Q := ct_mk ml_X2_init mg_X2_init rfl (Nat.le_of_ble_eq_true rfl) h
theorem ml_X2_makeNew : m_l n_X2_makeNew = 1 := by decide +kernel
theorem mr_X2_makeNew : m_r n_X2_makeNew = none := by decide +kernel
theorem mh_X2_makeNew : m_hh n_X2_makeNew = [] := by decide +kernel
theorem mg_X2_makeNew : (m_gc n_X2_makeNew, m_gs n_X2_makeNew, m_al n_X2_makeNew) = (0, 0, false) := by decide +kernel
theorem ct_X2_makeNew {b : Nat} {w : mW} {Q : mW → mO → Prop} (h : RT n_X2_makeNew 0 [.ref b] [] w (0, 0, false) Q) : CT n_X2_makeNew [.ref b] w Q := ct_mk ml_X2_makeNew mg_X2_makeNew rfl (Nat.le_of_ble_eq_true rfl) h
theorem ml_X2_copyFrom : m_l n_X2_copyFrom = 2 := by decide +kernel
theorem mr_X2_copyFrom : m_r n_X2_copyFrom = none := by decide +kernel
theorem mh_X2_copyFrom : m_hh n_X2_copyFrom = [] := by decide +kernel
theorem mg_X2_copyFrom : (m_gc n_X2_copyFrom, m_gs n_X2_copyFrom, m_al n_X2_copyFrom) = (0, 0, false) := by decide +kernel
theorem ct_X2_copyFrom {b : Nat} {r0 : Nat} {w : mW} {Q : mW → mO → Prop} (h : RT n_X2_copyFrom 0 [.ref b, .ref r0] [] w (0, 0, false) Q) : CT n_X2_copyFrom [.ref b, .ref r0] w Q := ct_mk ml_X2_copyFrom mg_X2_copyFrom rfl (Nat.le_of_ble_eq_true rfl) h
theorem ml_X2_highestPosition : m_l n_X2_highestPosition = 1 := by decide +kernel
theorem mr_X2_highestPosition : m_r n_X2_highestPosition = some .int := by decide +kernel
theorem mh_X2_highestPosition : m_hh n_X2_highestPosition = [] := by decide +kernel
theorem mg_X2_highestPosition : (m_gc n_X2_highestPosition, m_gs n_X2_highestPosition, m_al n_X2_highestPosition) = (0, 0, false) := by decide +kernel
theorem ct_X2_highestPosition {b : Nat} {w : mW} {Q : mW → mO → Prop} (h : RT n_X2_highestPosition 0 [.ref b] [] w (0, 0, false) Q) : CT n_X2_highestPosition [.ref b] w Q := ct_mk ml_X2_highestPosition mg_X2_highestPosition rfl (Nat.le_of_ble_eq_true rfl) h
theorem ml_X2_modulus : m_l n_X2_modulus = 1 := by decide +kernel
theorem mr_X2_modulus : m_r n_X2_modulus = some .long := by decide +kernel
theorem mh_X2_modulus : m_hh n_X2_modulus = [] := by decide +kernel
theorem mg_X2_modulus : (m_gc n_X2_modulus, m_gs n_X2_modulus, m_al n_X2_modulus) = (0, 0, false) := by decide +kernel
theorem ct_X2_modulus {b : Nat} {w : mW} {Q : mW → mO → Prop} (h : RT n_X2_modulus 0 [.ref b] [] w (0, 0, false) Q) : CT n_X2_modulus [.ref b] w Q := ct_mk ml_X2_modulus mg_X2_modulus rfl (Nat.le_of_ble_eq_true rfl) h
theorem ml_X2_greatestPinNumber : m_l n_X2_greatestPinNumber = 1 := by decide +kernel
theorem mr_X2_greatestPinNumber : m_r n_X2_greatestPinNumber = some .int := by decide +kernel
theorem mh_X2_greatestPinNumber : m_hh n_X2_greatestPinNumber = [] := by decide +kernel
theorem mg_X2_greatestPinNumber : (m_gc n_X2_greatestPinNumber, m_gs n_X2_greatestPinNumber, m_al n_X2_greatestPinNumber) = (0, 0, false) := by decide +kernel
theorem ct_X2_greatestPinNumber {b : Nat} {w : mW} {Q : mW → mO → Prop} (h : RT n_X2_greatestPinNumber 0 [.ref b] [] w (0, 0, false) Q) : CT n_X2_greatestPinNumber [.ref b] w Q := ct_mk ml_X2_greatestPinNumber mg_X2_greatestPinNumber rfl (Nat.le_of_ble_eq_true rfl) h
theorem ml_X2_resultNumber : m_l n_X2_resultNumber = 1 := by decide +kernel
theorem mr_X2_resultNumber : m_r n_X2_resultNumber = some .long := by decide +kernel
theorem mh_X2_resultNumber : m_hh n_X2_resultNumber = [] := by decide +kernel
theorem mg_X2_resultNumber : (m_gc n_X2_resultNumber, m_gs n_X2_resultNumber, m_al n_X2_resultNumber) = (0, 0, false) := by decide +kernel
theorem ct_X2_resultNumber {b : Nat} {w : mW} {Q : mW → mO → Prop} (h : RT n_X2_resultNumber 0 [.ref b] [] w (0, 0, false) Q) : CT n_X2_resultNumber [.ref b] w Q := ct_mk ml_X2_resultNumber mg_X2_resultNumber rfl (Nat.le_of_ble_eq_true rfl) h
theorem ml_X2_counterNumber : m_l n_X2_counterNumber = 1 := by decide +kernel
theorem mr_X2_counterNumber : m_r n_X2_counterNumber = some .int := by decide +kernel
theorem mh_X2_counterNumber : m_hh n_X2_counterNumber = [] := by decide +kernel
theorem mg_X2_counterNumber : (m_gc n_X2_counterNumber, m_gs n_X2_counterNumber, m_al n_X2_counterNumber) = (0, 0, false) := by decide +kernel
theorem ct_X2_counterNumber {b : Nat} {w : mW} {Q : mW → mO → Prop} (h : RT n_X2_counterNumber 0 [.ref b] [] w (0, 0, false) Q) : CT n_X2_counterNumber [.ref b] w Q := ct_mk ml_X2_counterNumber mg_X2_counterNumber rfl (Nat.le_of_ble_eq_true rfl) h
theorem ml_X2_pinNumber : m_l n_X2_pinNumber = 1 := by decide +kernel
theorem mr_X2_pinNumber : m_r n_X2_pinNumber = some .int := by decide +kernel
theorem mh_X2_pinNumber : m_hh n_X2_pinNumber = [] := by decide +kernel
theorem mg_X2_pinNumber : (m_gc n_X2_pinNumber, m_gs n_X2_pinNumber, m_al n_X2_pinNumber) = (0, 0, false) := by decide +kernel
theorem ct_X2_pinNumber {b : Nat} {w : mW} {Q : mW → mO → Prop} (h : RT n_X2_pinNumber 0 [.ref b] [] w (0, 0, false) Q) : CT n_X2_pinNumber [.ref b] w Q := ct_mk ml_X2_pinNumber mg_X2_pinNumber rfl (Nat.le_of_ble_eq_true rfl) h
theorem ml_X2_putPins : m_l n_X2_putPins = 4 := by decide +kernel
theorem mr_X2_putPins : m_r n_X2_putPins = none := by decide +kernel
theorem mh_X2_putPins : m_hh n_X2_putPins = [] := by decide +kernel
theorem mg_X2_putPins : (m_gc n_X2_putPins, m_gs n_X2_putPins, m_al n_X2_putPins) = (0, 0, false) := by decide +kernel
theorem ct_X2_putPins {b : Nat} {x0 : Int32} {w : mW} {Q : mW → mO → Prop} (h : RT n_X2_putPins 0 [.ref b, .int x0, .null, .null] [] w (0, 0, false) Q) : CT n_X2_putPins [.ref b, .int x0] w Q := ct_mk ml_X2_putPins mg_X2_putPins rfl (Nat.le_of_ble_eq_true rfl) h
theorem ml_X2_hasFault : m_l n_X2_hasFault = 3 := by decide +kernel
theorem mr_X2_hasFault : m_r n_X2_hasFault = some .boolean := by decide +kernel
theorem mh_X2_hasFault : m_hh n_X2_hasFault = [] := by decide +kernel
theorem mg_X2_hasFault : (m_gc n_X2_hasFault, m_gs n_X2_hasFault, m_al n_X2_hasFault) = (0, 0, false) := by decide +kernel
theorem ct_X2_hasFault {b : Nat} {x0 : Int32} {x1 : Int32} {w : mW} {Q : mW → mO → Prop} (h : RT n_X2_hasFault 0 [.ref b, .int x0, .int x1] [] w (0, 0, false) Q) : CT n_X2_hasFault [.ref b, .int x0, .int x1] w Q := ct_mk ml_X2_hasFault mg_X2_hasFault rfl (Nat.le_of_ble_eq_true rfl) h
theorem ml_X2_faultTotal : m_l n_X2_faultTotal = 3 := by decide +kernel
theorem mr_X2_faultTotal : m_r n_X2_faultTotal = some .int := by decide +kernel
theorem mh_X2_faultTotal : m_hh n_X2_faultTotal = [] := by decide +kernel
theorem mg_X2_faultTotal : (m_gc n_X2_faultTotal, m_gs n_X2_faultTotal, m_al n_X2_faultTotal) = (0, 0, false) := by decide +kernel
theorem ct_X2_faultTotal {b : Nat} {w : mW} {Q : mW → mO → Prop} (h : RT n_X2_faultTotal 0 [.ref b, .null, .null] [] w (0, 0, false) Q) : CT n_X2_faultTotal [.ref b] w Q := ct_mk ml_X2_faultTotal mg_X2_faultTotal rfl (Nat.le_of_ble_eq_true rfl) h
theorem ml_X2_busiestWheel : m_l n_X2_busiestWheel = 3 := by decide +kernel
theorem mr_X2_busiestWheel : m_r n_X2_busiestWheel = some .int := by decide +kernel
theorem mh_X2_busiestWheel : m_hh n_X2_busiestWheel = [] := by decide +kernel
theorem mg_X2_busiestWheel : (m_gc n_X2_busiestWheel, m_gs n_X2_busiestWheel, m_al n_X2_busiestWheel) = (0, 0, false) := by decide +kernel
theorem ct_X2_busiestWheel {b : Nat} {w : mW} {Q : mW → mO → Prop} (h : RT n_X2_busiestWheel 0 [.ref b, .null, .null] [] w (0, 0, false) Q) : CT n_X2_busiestWheel [.ref b] w Q := ct_mk ml_X2_busiestWheel mg_X2_busiestWheel rfl (Nat.le_of_ble_eq_true rfl) h
theorem ml_X2_isWrongAt : m_l n_X2_isWrongAt = 2 := by decide +kernel
theorem mr_X2_isWrongAt : m_r n_X2_isWrongAt = some .boolean := by decide +kernel
theorem mh_X2_isWrongAt : m_hh n_X2_isWrongAt = [] := by decide +kernel
theorem mg_X2_isWrongAt : (m_gc n_X2_isWrongAt, m_gs n_X2_isWrongAt, m_al n_X2_isWrongAt) = (0, 0, false) := by decide +kernel
theorem ct_X2_isWrongAt {b : Nat} {x0 : Int32} {w : mW} {Q : mW → mO → Prop} (h : RT n_X2_isWrongAt 0 [.ref b, .int x0] [] w (0, 0, false) Q) : CT n_X2_isWrongAt [.ref b, .int x0] w Q := ct_mk ml_X2_isWrongAt mg_X2_isWrongAt rfl (Nat.le_of_ble_eq_true rfl) h
theorem ml_X2_clearPart : m_l n_X2_clearPart = 3 := by decide +kernel
theorem mr_X2_clearPart : m_r n_X2_clearPart = some .int := by decide +kernel
theorem mh_X2_clearPart : m_hh n_X2_clearPart = [] := by decide +kernel
theorem mg_X2_clearPart : (m_gc n_X2_clearPart, m_gs n_X2_clearPart, m_al n_X2_clearPart) = (0, 0, false) := by decide +kernel
theorem ct_X2_clearPart {b : Nat} {x0 : Int32} {w : mW} {Q : mW → mO → Prop} (h : RT n_X2_clearPart 0 [.ref b, .int x0, .null] [] w (0, 0, false) Q) : CT n_X2_clearPart [.ref b, .int x0] w Q := ct_mk ml_X2_clearPart mg_X2_clearPart rfl (Nat.le_of_ble_eq_true rfl) h
theorem ml_X2_transferBack : m_l n_X2_transferBack = 2 := by decide +kernel
theorem mr_X2_transferBack : m_r n_X2_transferBack = some .int := by decide +kernel
theorem mh_X2_transferBack : m_hh n_X2_transferBack = [] := by decide +kernel
theorem mg_X2_transferBack : (m_gc n_X2_transferBack, m_gs n_X2_transferBack, m_al n_X2_transferBack) = (0, 0, false) := by decide +kernel
theorem ct_X2_transferBack {b : Nat} {w : mW} {Q : mW → mO → Prop} (h : RT n_X2_transferBack 0 [.ref b, .null] [] w (0, 0, false) Q) : CT n_X2_transferBack [.ref b] w Q := ct_mk ml_X2_transferBack mg_X2_transferBack rfl (Nat.le_of_ble_eq_true rfl) h
theorem ml_X2_crankTimes : m_l n_X2_crankTimes = 5 := by decide +kernel
theorem mr_X2_crankTimes : m_r n_X2_crankTimes = some .int := by decide +kernel
theorem mh_X2_crankTimes : m_hh n_X2_crankTimes = [] := by decide +kernel
theorem mg_X2_crankTimes : (m_gc n_X2_crankTimes, m_gs n_X2_crankTimes, m_al n_X2_crankTimes) = (0, 0, false) := by decide +kernel
theorem ct_X2_crankTimes {b : Nat} {x0 : Int32} {w : mW} {Q : mW → mO → Prop} (h : RT n_X2_crankTimes 0 [.ref b, .int x0, .null, .null, .null] [] w (0, 0, false) Q) : CT n_X2_crankTimes [.ref b, .int x0] w Q := ct_mk ml_X2_crankTimes mg_X2_crankTimes rfl (Nat.le_of_ble_eq_true rfl) h
theorem ml_X2_divideByPins : m_l n_X2_divideByPins = 3 := by decide +kernel
theorem mr_X2_divideByPins : m_r n_X2_divideByPins = some .int := by decide +kernel
theorem mh_X2_divideByPins : m_hh n_X2_divideByPins = [] := by decide +kernel
theorem mg_X2_divideByPins : (m_gc n_X2_divideByPins, m_gs n_X2_divideByPins, m_al n_X2_divideByPins) = (0, 0, false) := by decide +kernel
theorem ct_X2_divideByPins {b : Nat} {w : mW} {Q : mW → mO → Prop} (h : RT n_X2_divideByPins 0 [.ref b, .null, .null] [] w (0, 0, false) Q) : CT n_X2_divideByPins [.ref b] w Q := ct_mk ml_X2_divideByPins mg_X2_divideByPins rfl (Nat.le_of_ble_eq_true rfl) h
theorem ml_X2_divideHere : m_l n_X2_divideHere = 3 := by decide +kernel
theorem mr_X2_divideHere : m_r n_X2_divideHere = some .int := by decide +kernel
theorem mh_X2_divideHere : m_hh n_X2_divideHere = [] := by decide +kernel
theorem mg_X2_divideHere : (m_gc n_X2_divideHere, m_gs n_X2_divideHere, m_al n_X2_divideHere) = (0, 0, false) := by decide +kernel
theorem ct_X2_divideHere {b : Nat} {w : mW} {Q : mW → mO → Prop} (h : RT n_X2_divideHere 0 [.ref b, .null, .null] [] w (0, 0, false) Q) : CT n_X2_divideHere [.ref b] w Q := ct_mk ml_X2_divideHere mg_X2_divideHere rfl (Nat.le_of_ble_eq_true rfl) h
theorem ml_X2_takeBackTurn : m_l n_X2_takeBackTurn = 4 := by decide +kernel
theorem mr_X2_takeBackTurn : m_r n_X2_takeBackTurn = some .int := by decide +kernel
theorem mh_X2_takeBackTurn : m_hh n_X2_takeBackTurn = [] := by decide +kernel
theorem mg_X2_takeBackTurn : (m_gc n_X2_takeBackTurn, m_gs n_X2_takeBackTurn, m_al n_X2_takeBackTurn) = (0, 0, false) := by decide +kernel
theorem ct_X2_takeBackTurn {b : Nat} {w : mW} {Q : mW → mO → Prop} (h : RT n_X2_takeBackTurn 0 [.ref b, .null, .null, .null] [] w (0, 0, false) Q) : CT n_X2_takeBackTurn [.ref b] w Q := ct_mk ml_X2_takeBackTurn mg_X2_takeBackTurn rfl (Nat.le_of_ble_eq_true rfl) h
theorem ml_X2_freeAndGoOn : m_l n_X2_freeAndGoOn = 1 := by decide +kernel
theorem mr_X2_freeAndGoOn : m_r n_X2_freeAndGoOn = some .boolean := by decide +kernel
theorem mh_X2_freeAndGoOn : m_hh n_X2_freeAndGoOn = [] := by decide +kernel
theorem mg_X2_freeAndGoOn : (m_gc n_X2_freeAndGoOn, m_gs n_X2_freeAndGoOn, m_al n_X2_freeAndGoOn) = (0, 0, false) := by decide +kernel
theorem ct_X2_freeAndGoOn {b : Nat} {w : mW} {Q : mW → mO → Prop} (h : RT n_X2_freeAndGoOn 0 [.ref b] [] w (0, 0, false) Q) : CT n_X2_freeAndGoOn [.ref b] w Q := ct_mk ml_X2_freeAndGoOn mg_X2_freeAndGoOn rfl (Nat.le_of_ble_eq_true rfl) h
theorem ml_X2_jammedWheel : m_l n_X2_jammedWheel = 1 := by decide +kernel
theorem mr_X2_jammedWheel : m_r n_X2_jammedWheel = some .int := by decide +kernel
theorem mh_X2_jammedWheel : m_hh n_X2_jammedWheel = [] := by decide +kernel
theorem mg_X2_jammedWheel : (m_gc n_X2_jammedWheel, m_gs n_X2_jammedWheel, m_al n_X2_jammedWheel) = (0, 0, false) := by decide +kernel
theorem ct_X2_jammedWheel {b : Nat} {w : mW} {Q : mW → mO → Prop} (h : RT n_X2_jammedWheel 0 [.ref b] [] w (0, 0, false) Q) : CT n_X2_jammedWheel [.ref b] w Q := ct_mk ml_X2_jammedWheel mg_X2_jammedWheel rfl (Nat.le_of_ble_eq_true rfl) h
theorem ml_X2_goOn : m_l n_X2_goOn = 1 := by decide +kernel
theorem mr_X2_goOn : m_r n_X2_goOn = some .boolean := by decide +kernel
theorem mh_X2_goOn : m_hh n_X2_goOn = [] := by decide +kernel
theorem mg_X2_goOn : (m_gc n_X2_goOn, m_gs n_X2_goOn, m_al n_X2_goOn) = (0, 0, false) := by decide +kernel
theorem ct_X2_goOn {b : Nat} {w : mW} {Q : mW → mO → Prop} (h : RT n_X2_goOn 0 [.ref b] [] w (0, 0, false) Q) : CT n_X2_goOn [.ref b] w Q := ct_mk ml_X2_goOn mg_X2_goOn rfl (Nat.le_of_ble_eq_true rfl) h
theorem ml_X2_movePins : m_l n_X2_movePins = 2 := by decide +kernel
theorem mr_X2_movePins : m_r n_X2_movePins = some .boolean := by decide +kernel
theorem mh_X2_movePins : m_hh n_X2_movePins = [] := by decide +kernel
theorem mg_X2_movePins : (m_gc n_X2_movePins, m_gs n_X2_movePins, m_al n_X2_movePins) = (0, 0, false) := by decide +kernel
theorem ct_X2_movePins {b : Nat} {w : mW} {Q : mW → mO → Prop} (h : RT n_X2_movePins 0 [.ref b, .null] [] w (0, 0, false) Q) : CT n_X2_movePins [.ref b] w Q := ct_mk ml_X2_movePins mg_X2_movePins rfl (Nat.le_of_ble_eq_true rfl) h
theorem ml_X2_releaseLevers : m_l n_X2_releaseLevers = 3 := by decide +kernel
theorem mr_X2_releaseLevers : m_r n_X2_releaseLevers = some .boolean := by decide +kernel
theorem mh_X2_releaseLevers : m_hh n_X2_releaseLevers = [] := by decide +kernel
theorem mg_X2_releaseLevers : (m_gc n_X2_releaseLevers, m_gs n_X2_releaseLevers, m_al n_X2_releaseLevers) = (0, 0, false) := by decide +kernel
theorem ct_X2_releaseLevers {b : Nat} {w : mW} {Q : mW → mO → Prop} (h : RT n_X2_releaseLevers 0 [.ref b, .null, .null] [] w (0, 0, false) Q) : CT n_X2_releaseLevers [.ref b] w Q := ct_mk ml_X2_releaseLevers mg_X2_releaseLevers rfl (Nat.le_of_ble_eq_true rfl) h
theorem ml_X2_move : m_l n_X2_move = 4 := by decide +kernel
theorem mr_X2_move : m_r n_X2_move = some .boolean := by decide +kernel
theorem mh_X2_move : m_hh n_X2_move = [] := by decide +kernel
theorem mg_X2_move : (m_gc n_X2_move, m_gs n_X2_move, m_al n_X2_move) = (0, 0, false) := by decide +kernel
theorem ct_X2_move {b : Nat} {x0 : Int32} {x1 : Int32} {w : mW} {Q : mW → mO → Prop} (h : RT n_X2_move 0 [.ref b, .int x0, .int x1, .null] [] w (0, 0, false) Q) : CT n_X2_move [.ref b, .int x0, .int x1] w Q := ct_mk ml_X2_move mg_X2_move rfl (Nat.le_of_ble_eq_true rfl) h
theorem ml_X2_finishTurn : m_l n_X2_finishTurn = 2 := by decide +kernel
theorem mr_X2_finishTurn : m_r n_X2_finishTurn = none := by decide +kernel
theorem mh_X2_finishTurn : m_hh n_X2_finishTurn = [] := by decide +kernel
theorem mg_X2_finishTurn : (m_gc n_X2_finishTurn, m_gs n_X2_finishTurn, m_al n_X2_finishTurn) = (0, 0, false) := by decide +kernel
theorem ct_X2_finishTurn {b : Nat} {w : mW} {Q : mW → mO → Prop} (h : RT n_X2_finishTurn 0 [.ref b, .null] [] w (0, 0, false) Q) : CT n_X2_finishTurn [.ref b] w Q := ct_mk ml_X2_finishTurn mg_X2_finishTurn rfl (Nat.le_of_ble_eq_true rfl) h
theorem ml_X2_moveCounter : m_l n_X2_moveCounter = 5 := by decide +kernel
theorem mr_X2_moveCounter : m_r n_X2_moveCounter = none := by decide +kernel
theorem mh_X2_moveCounter : m_hh n_X2_moveCounter = [] := by decide +kernel
theorem mg_X2_moveCounter : (m_gc n_X2_moveCounter, m_gs n_X2_moveCounter, m_al n_X2_moveCounter) = (0, 0, false) := by decide +kernel
theorem ct_X2_moveCounter {b : Nat} {x0 : Int32} {w : mW} {Q : mW → mO → Prop} (h : RT n_X2_moveCounter 0 [.ref b, .int x0, .null, .null, .null] [] w (0, 0, false) Q) : CT n_X2_moveCounter [.ref b, .int x0] w Q := ct_mk ml_X2_moveCounter mg_X2_moveCounter rfl (Nat.le_of_ble_eq_true rfl) h
theorem ml_X2_clearDigits : m_l n_X2_clearDigits = 3 := by decide +kernel
theorem mr_X2_clearDigits : m_r n_X2_clearDigits = some .int := by decide +kernel
theorem mh_X2_clearDigits : m_hh n_X2_clearDigits = [] := by decide +kernel
theorem mg_X2_clearDigits : (m_gc n_X2_clearDigits, m_gs n_X2_clearDigits, m_al n_X2_clearDigits) = (0, 0, false) := by decide +kernel
theorem ct_X2_clearDigits {r0 : Nat} {w : mW} {Q : mW → mO → Prop} (h : RT n_X2_clearDigits 0 [.ref r0, .null, .null] [] w (0, 0, false) Q) : CT n_X2_clearDigits [.ref r0] w Q := ct_mk ml_X2_clearDigits mg_X2_clearDigits rfl (Nat.le_of_ble_eq_true rfl) h
theorem ml_X2_numberOf : m_l n_X2_numberOf = 5 := by decide +kernel
theorem mr_X2_numberOf : m_r n_X2_numberOf = some .long := by decide +kernel
theorem mh_X2_numberOf : m_hh n_X2_numberOf = [] := by decide +kernel
theorem mg_X2_numberOf : (m_gc n_X2_numberOf, m_gs n_X2_numberOf, m_al n_X2_numberOf) = (0, 0, false) := by decide +kernel
theorem ct_X2_numberOf {r0 : Nat} {x1 : Int32} {w : mW} {Q : mW → mO → Prop} (h : RT n_X2_numberOf 0 [.ref r0, .int x1, .null, .null, .null] [] w (0, 0, false) Q) : CT n_X2_numberOf [.ref r0, .int x1] w Q := ct_mk ml_X2_numberOf mg_X2_numberOf rfl (Nat.le_of_ble_eq_true rfl) h
theorem ml_X3_init : m_l n_X3_init = 1 := by decide +kernel
theorem mr_X3_init : m_r n_X3_init = none := by decide +kernel
theorem mh_X3_init : m_hh n_X3_init = [] := by decide +kernel
theorem mg_X3_init : (m_gc n_X3_init, m_gs n_X3_init, m_al n_X3_init) = (1, 7, true) := by decide +kernel
theorem ct_X3_init {b : Nat} {w : mW} {Q : mW → mO → Prop} (h : RT n_X3_init 0 [.ref b] [] w (1, 7, true) Q) : CT n_X3_init [.ref b] w Q := ct_mk ml_X3_init mg_X3_init rfl (Nat.le_of_ble_eq_true rfl) h
theorem ml_X3_plan : m_l n_X3_plan = 6 := by decide +kernel
theorem mr_X3_plan : m_r n_X3_plan = none := by decide +kernel
theorem mh_X3_plan : m_hh n_X3_plan = [] := by decide +kernel
theorem mg_X3_plan : (m_gc n_X3_plan, m_gs n_X3_plan, m_al n_X3_plan) = (0, 0, false) := by decide +kernel
theorem ct_X3_plan {b : Nat} {x0 : Int32} {x1 : Int32} {w : mW} {Q : mW → mO → Prop} (h : RT n_X3_plan 0 [.ref b, .int x0, .int x1, .null, .null, .null] [] w (0, 0, false) Q) : CT n_X3_plan [.ref b, .int x0, .int x1] w Q := ct_mk ml_X3_plan mg_X3_plan rfl (Nat.le_of_ble_eq_true rfl) h
theorem ml_X3_fits : m_l n_X3_fits = 2 := by decide +kernel
theorem mr_X3_fits : m_r n_X3_fits = some .boolean := by decide +kernel
theorem mh_X3_fits : m_hh n_X3_fits = [] := by decide +kernel
theorem mg_X3_fits : (m_gc n_X3_fits, m_gs n_X3_fits, m_al n_X3_fits) = (0, 0, false) := by decide +kernel
theorem ct_X3_fits {b : Nat} {r0 : Nat} {w : mW} {Q : mW → mO → Prop} (h : RT n_X3_fits 0 [.ref b, .ref r0] [] w (0, 0, false) Q) : CT n_X3_fits [.ref b, .ref r0] w Q := ct_mk ml_X3_fits mg_X3_fits rfl (Nat.le_of_ble_eq_true rfl) h
theorem ml_X3_turnTotal : m_l n_X3_turnTotal = 3 := by decide +kernel
theorem mr_X3_turnTotal : m_r n_X3_turnTotal = some .int := by decide +kernel
theorem mh_X3_turnTotal : m_hh n_X3_turnTotal = [] := by decide +kernel
theorem mg_X3_turnTotal : (m_gc n_X3_turnTotal, m_gs n_X3_turnTotal, m_al n_X3_turnTotal) = (0, 0, false) := by decide +kernel
theorem ct_X3_turnTotal {b : Nat} {w : mW} {Q : mW → mO → Prop} (h : RT n_X3_turnTotal 0 [.ref b, .null, .null] [] w (0, 0, false) Q) : CT n_X3_turnTotal [.ref b] w Q := ct_mk ml_X3_turnTotal mg_X3_turnTotal rfl (Nat.le_of_ble_eq_true rfl) h
theorem ml_X3_runOn : m_l n_X3_runOn = 4 := by decide +kernel
theorem mr_X3_runOn : m_r n_X3_runOn = some .int := by decide +kernel
theorem mh_X3_runOn : m_hh n_X3_runOn = [] := by decide +kernel
theorem mg_X3_runOn : (m_gc n_X3_runOn, m_gs n_X3_runOn, m_al n_X3_runOn) = (0, 0, false) := by decide +kernel
theorem ct_X3_runOn {b : Nat} {r0 : Nat} {w : mW} {Q : mW → mO → Prop} (h : RT n_X3_runOn 0 [.ref b, .ref r0, .null, .null] [] w (0, 0, false) Q) : CT n_X3_runOn [.ref b, .ref r0] w Q := ct_mk ml_X3_runOn mg_X3_runOn rfl (Nat.le_of_ble_eq_true rfl) h
theorem ml_X4_init : m_l n_X4_init = 1 := by decide +kernel
theorem mr_X4_init : m_r n_X4_init = none := by decide +kernel
theorem mh_X4_init : m_hh n_X4_init = [] := by decide +kernel
theorem mg_X4_init : (m_gc n_X4_init, m_gs n_X4_init, m_al n_X4_init) = (2, 32, true) := by decide +kernel
theorem ct_X4_init {b : Nat} {w : mW} {Q : mW → mO → Prop} (h : RT n_X4_init 0 [.ref b] [] w (2, 32, true) Q) : CT n_X4_init [.ref b] w Q := ct_mk ml_X4_init mg_X4_init rfl (Nat.le_of_ble_eq_true rfl) h
theorem ml_X4_begin : m_l n_X4_begin = 4 := by decide +kernel
theorem mr_X4_begin : m_r n_X4_begin = none := by decide +kernel
theorem mh_X4_begin : m_hh n_X4_begin = [] := by decide +kernel
theorem mg_X4_begin : (m_gc n_X4_begin, m_gs n_X4_begin, m_al n_X4_begin) = (0, 0, false) := by decide +kernel
theorem ct_X4_begin {b : Nat} {x0 : Int32} {x1 : Int32} {w : mW} {Q : mW → mO → Prop} (h : RT n_X4_begin 0 [.ref b, .int x0, .int x1, .null] [] w (0, 0, false) Q) : CT n_X4_begin [.ref b, .int x0, .int x1] w Q := ct_mk ml_X4_begin mg_X4_begin rfl (Nat.le_of_ble_eq_true rfl) h
theorem ml_X4_copyFrom : m_l n_X4_copyFrom = 3 := by decide +kernel
theorem mr_X4_copyFrom : m_r n_X4_copyFrom = none := by decide +kernel
theorem mh_X4_copyFrom : m_hh n_X4_copyFrom = [] := by decide +kernel
theorem mg_X4_copyFrom : (m_gc n_X4_copyFrom, m_gs n_X4_copyFrom, m_al n_X4_copyFrom) = (0, 0, false) := by decide +kernel
theorem ct_X4_copyFrom {b : Nat} {r0 : Nat} {w : mW} {Q : mW → mO → Prop} (h : RT n_X4_copyFrom 0 [.ref b, .ref r0, .null] [] w (0, 0, false) Q) : CT n_X4_copyFrom [.ref b, .ref r0] w Q := ct_mk ml_X4_copyFrom mg_X4_copyFrom rfl (Nat.le_of_ble_eq_true rfl) h
theorem ml_X4_addCarry : m_l n_X4_addCarry = 1 := by decide +kernel
theorem mr_X4_addCarry : m_r n_X4_addCarry = none := by decide +kernel
theorem mh_X4_addCarry : m_hh n_X4_addCarry = [] := by decide +kernel
theorem mg_X4_addCarry : (m_gc n_X4_addCarry, m_gs n_X4_addCarry, m_al n_X4_addCarry) = (0, 0, false) := by decide +kernel
theorem ct_X4_addCarry {b : Nat} {w : mW} {Q : mW → mO → Prop} (h : RT n_X4_addCarry 0 [.ref b] [] w (0, 0, false) Q) : CT n_X4_addCarry [.ref b] w Q := ct_mk ml_X4_addCarry mg_X4_addCarry rfl (Nat.le_of_ble_eq_true rfl) h
theorem ml_X4_movedWheels : m_l n_X4_movedWheels = 3 := by decide +kernel
theorem mr_X4_movedWheels : m_r n_X4_movedWheels = some .int := by decide +kernel
theorem mh_X4_movedWheels : m_hh n_X4_movedWheels = [] := by decide +kernel
theorem mg_X4_movedWheels : (m_gc n_X4_movedWheels, m_gs n_X4_movedWheels, m_al n_X4_movedWheels) = (0, 0, false) := by decide +kernel
theorem ct_X4_movedWheels {b : Nat} {w : mW} {Q : mW → mO → Prop} (h : RT n_X4_movedWheels 0 [.ref b, .null, .null] [] w (0, 0, false) Q) : CT n_X4_movedWheels [.ref b] w Q := ct_mk ml_X4_movedWheels mg_X4_movedWheels rfl (Nat.le_of_ble_eq_true rfl) h
theorem ml_X5_init : m_l n_X5_init = 2 := by decide +kernel
theorem mr_X5_init : m_r n_X5_init = none := by decide +kernel
theorem mh_X5_init : m_hh n_X5_init = [] := by decide +kernel
theorem mg_X5_init : (m_gc n_X5_init, m_gs n_X5_init, m_al n_X5_init) = (3, 120, true) := by decide +kernel
theorem ct_X5_init {b : Nat} {r0 : Nat} {w : mW} {Q : mW → mO → Prop} (h : RT n_X5_init 0 [.ref b, .ref r0] [] w (3, 120, true) Q) : CT n_X5_init [.ref b, .ref r0] w Q := ct_mk ml_X5_init mg_X5_init rfl (Nat.le_of_ble_eq_true rfl) h
theorem ml_X6_init : m_l n_X6_init = 2 := by decide +kernel
theorem mr_X6_init : m_r n_X6_init = none := by decide +kernel
theorem mh_X6_init : m_hh n_X6_init = [] := by decide +kernel
theorem mg_X6_init : (m_gc n_X6_init, m_gs n_X6_init, m_al n_X6_init) = (1, 6, true) := by decide +kernel
theorem ct_X6_init {b : Nat} {r0 : Nat} {w : mW} {Q : mW → mO → Prop} (h : RT n_X6_init 0 [.ref b, .ref r0] [] w (1, 6, true) Q) : CT n_X6_init [.ref b, .ref r0] w Q := ct_mk ml_X6_init mg_X6_init rfl (Nat.le_of_ble_eq_true rfl) h
theorem ml_X6_readInto : m_l n_X6_readInto = 3 := by decide +kernel
theorem mr_X6_readInto : m_r n_X6_readInto = some .boolean := by decide +kernel
theorem mh_X6_readInto : m_hh n_X6_readInto = [] := by decide +kernel
theorem mg_X6_readInto : (m_gc n_X6_readInto, m_gs n_X6_readInto, m_al n_X6_readInto) = (0, 0, false) := by decide +kernel
theorem ct_X6_readInto {b : Nat} {r0 : Nat} {w : mW} {Q : mW → mO → Prop} (h : RT n_X6_readInto 0 [.ref b, .ref r0, .null] [] w (0, 0, false) Q) : CT n_X6_readInto [.ref b, .ref r0] w Q := ct_mk ml_X6_readInto mg_X6_readInto rfl (Nat.le_of_ble_eq_true rfl) h
theorem ml_X6_readStatement : m_l n_X6_readStatement = 3 := by decide +kernel
theorem mr_X6_readStatement : m_r n_X6_readStatement = some .boolean := by decide +kernel
theorem mh_X6_readStatement : m_hh n_X6_readStatement = [] := by decide +kernel
theorem mg_X6_readStatement : (m_gc n_X6_readStatement, m_gs n_X6_readStatement, m_al n_X6_readStatement) = (0, 0, false) := by decide +kernel
theorem ct_X6_readStatement {b : Nat} {r0 : Nat} {w : mW} {Q : mW → mO → Prop} (h : RT n_X6_readStatement 0 [.ref b, .ref r0, .null] [] w (0, 0, false) Q) : CT n_X6_readStatement [.ref b, .ref r0] w Q := ct_mk ml_X6_readStatement mg_X6_readStatement rfl (Nat.le_of_ble_eq_true rfl) h
theorem ml_X6_kindOfToken : m_l n_X6_kindOfToken = 1 := by decide +kernel
theorem mr_X6_kindOfToken : m_r n_X6_kindOfToken = some .int := by decide +kernel
theorem mh_X6_kindOfToken : m_hh n_X6_kindOfToken = [] := by decide +kernel
theorem mg_X6_kindOfToken : (m_gc n_X6_kindOfToken, m_gs n_X6_kindOfToken, m_al n_X6_kindOfToken) = (0, 0, false) := by decide +kernel
theorem ct_X6_kindOfToken {b : Nat} {w : mW} {Q : mW → mO → Prop} (h : RT n_X6_kindOfToken 0 [.ref b] [] w (0, 0, false) Q) : CT n_X6_kindOfToken [.ref b] w Q := ct_mk ml_X6_kindOfToken mg_X6_kindOfToken rfl (Nat.le_of_ble_eq_true rfl) h
theorem ml_X6_comesTooLate : m_l n_X6_comesTooLate = 3 := by decide +kernel
theorem mr_X6_comesTooLate : m_r n_X6_comesTooLate = some .boolean := by decide +kernel
theorem mh_X6_comesTooLate : m_hh n_X6_comesTooLate = [] := by decide +kernel
theorem mg_X6_comesTooLate : (m_gc n_X6_comesTooLate, m_gs n_X6_comesTooLate, m_al n_X6_comesTooLate) = (0, 0, false) := by decide +kernel
theorem ct_X6_comesTooLate {b : Nat} {x0 : Int32} {w : mW} {Q : mW → mO → Prop} (h : RT n_X6_comesTooLate 0 [.ref b, .int x0, .null] [] w (0, 0, false) Q) : CT n_X6_comesTooLate [.ref b, .int x0] w Q := ct_mk ml_X6_comesTooLate mg_X6_comesTooLate rfl (Nat.le_of_ble_eq_true rfl) h
theorem ml_X6_isFault : m_l n_X6_isFault = 1 := by decide +kernel
theorem mr_X6_isFault : m_r n_X6_isFault = some .boolean := by decide +kernel
theorem mh_X6_isFault : m_hh n_X6_isFault = [] := by decide +kernel
theorem mg_X6_isFault : (m_gc n_X6_isFault, m_gs n_X6_isFault, m_al n_X6_isFault) = (0, 0, false) := by decide +kernel
theorem ct_X6_isFault {x0 : Int32} {w : mW} {Q : mW → mO → Prop} (h : RT n_X6_isFault 0 [.int x0] [] w (0, 0, false) Q) : CT n_X6_isFault [.int x0] w Q := ct_mk ml_X6_isFault mg_X6_isFault rfl (Nat.le_of_ble_eq_true rfl) h
theorem ml_X6_faultOf : m_l n_X6_faultOf = 1 := by decide +kernel
theorem mr_X6_faultOf : m_r n_X6_faultOf = some .int := by decide +kernel
theorem mh_X6_faultOf : m_hh n_X6_faultOf = [] := by decide +kernel
theorem mg_X6_faultOf : (m_gc n_X6_faultOf, m_gs n_X6_faultOf, m_al n_X6_faultOf) = (0, 0, false) := by decide +kernel
theorem ct_X6_faultOf {x0 : Int32} {w : mW} {Q : mW → mO → Prop} (h : RT n_X6_faultOf 0 [.int x0] [] w (0, 0, false) Q) : CT n_X6_faultOf [.int x0] w Q := ct_mk ml_X6_faultOf mg_X6_faultOf rfl (Nat.le_of_ble_eq_true rfl) h
theorem ml_X6_leastOf : m_l n_X6_leastOf = 2 := by decide +kernel
theorem mr_X6_leastOf : m_r n_X6_leastOf = some .int := by decide +kernel
theorem mh_X6_leastOf : m_hh n_X6_leastOf = [] := by decide +kernel
theorem mg_X6_leastOf : (m_gc n_X6_leastOf, m_gs n_X6_leastOf, m_al n_X6_leastOf) = (0, 0, false) := by decide +kernel
theorem ct_X6_leastOf {x0 : Int32} {r1 : Nat} {w : mW} {Q : mW → mO → Prop} (h : RT n_X6_leastOf 0 [.int x0, .ref r1] [] w (0, 0, false) Q) : CT n_X6_leastOf [.int x0, .ref r1] w Q := ct_mk ml_X6_leastOf mg_X6_leastOf rfl (Nat.le_of_ble_eq_true rfl) h
theorem ml_X6_mostOf : m_l n_X6_mostOf = 2 := by decide +kernel
theorem mr_X6_mostOf : m_r n_X6_mostOf = some .int := by decide +kernel
theorem mh_X6_mostOf : m_hh n_X6_mostOf = [] := by decide +kernel
theorem mg_X6_mostOf : (m_gc n_X6_mostOf, m_gs n_X6_mostOf, m_al n_X6_mostOf) = (0, 0, false) := by decide +kernel
theorem ct_X6_mostOf {x0 : Int32} {r1 : Nat} {w : mW} {Q : mW → mO → Prop} (h : RT n_X6_mostOf 0 [.int x0, .ref r1] [] w (0, 0, false) Q) : CT n_X6_mostOf [.int x0, .ref r1] w Q := ct_mk ml_X6_mostOf mg_X6_mostOf rfl (Nat.le_of_ble_eq_true rfl) h
theorem ml_X6_put : m_l n_X6_put = 3 := by decide +kernel
theorem mr_X6_put : m_r n_X6_put = none := by decide +kernel
theorem mh_X6_put : m_hh n_X6_put = [] := by decide +kernel
theorem mg_X6_put : (m_gc n_X6_put, m_gs n_X6_put, m_al n_X6_put) = (0, 0, false) := by decide +kernel
theorem ct_X6_put {x0 : Int32} {x1 : Int32} {r2 : Nat} {w : mW} {Q : mW → mO → Prop} (h : RT n_X6_put 0 [.int x0, .int x1, .ref r2] [] w (0, 0, false) Q) : CT n_X6_put [.int x0, .int x1, .ref r2] w Q := ct_mk ml_X6_put mg_X6_put rfl (Nat.le_of_ble_eq_true rfl) h
theorem ml_X7_init : m_l n_X7_init = 2 := by decide +kernel
theorem mr_X7_init : m_r n_X7_init = none := by decide +kernel
theorem mh_X7_init : m_hh n_X7_init = [] := by decide +kernel
theorem mg_X7_init : (m_gc n_X7_init, m_gs n_X7_init, m_al n_X7_init) = (0, 0, true) := by decide +kernel
theorem ct_X7_init {b : Nat} {r0 : Nat} {w : mW} {Q : mW → mO → Prop} (h : RT n_X7_init 0 [.ref b, .ref r0] [] w (0, 0, true) Q) : CT n_X7_init [.ref b, .ref r0] w Q := ct_mk ml_X7_init mg_X7_init rfl (Nat.le_of_ble_eq_true rfl) h
theorem ml_X7_begin : m_l n_X7_begin = 1 := by decide +kernel
theorem mr_X7_begin : m_r n_X7_begin = none := by decide +kernel
theorem mh_X7_begin : m_hh n_X7_begin = [] := by decide +kernel
theorem mg_X7_begin : (m_gc n_X7_begin, m_gs n_X7_begin, m_al n_X7_begin) = (0, 0, false) := by decide +kernel
theorem ct_X7_begin {b : Nat} {w : mW} {Q : mW → mO → Prop} (h : RT n_X7_begin 0 [.ref b] [] w (0, 0, false) Q) : CT n_X7_begin [.ref b] w Q := ct_mk ml_X7_begin mg_X7_begin rfl (Nat.le_of_ble_eq_true rfl) h
theorem ml_X7_advance : m_l n_X7_advance = 1 := by decide +kernel
theorem mr_X7_advance : m_r n_X7_advance = none := by decide +kernel
theorem mh_X7_advance : m_hh n_X7_advance = [] := by decide +kernel
theorem mg_X7_advance : (m_gc n_X7_advance, m_gs n_X7_advance, m_al n_X7_advance) = (0, 0, false) := by decide +kernel
theorem ct_X7_advance {b : Nat} {w : mW} {Q : mW → mO → Prop} (h : RT n_X7_advance 0 [.ref b] [] w (0, 0, false) Q) : CT n_X7_advance [.ref b] w Q := ct_mk ml_X7_advance mg_X7_advance rfl (Nat.le_of_ble_eq_true rfl) h
theorem ml_X7_isAtEnd : m_l n_X7_isAtEnd = 1 := by decide +kernel
theorem mr_X7_isAtEnd : m_r n_X7_isAtEnd = some .boolean := by decide +kernel
theorem mh_X7_isAtEnd : m_hh n_X7_isAtEnd = [] := by decide +kernel
theorem mg_X7_isAtEnd : (m_gc n_X7_isAtEnd, m_gs n_X7_isAtEnd, m_al n_X7_isAtEnd) = (0, 0, false) := by decide +kernel
theorem ct_X7_isAtEnd {b : Nat} {w : mW} {Q : mW → mO → Prop} (h : RT n_X7_isAtEnd 0 [.ref b] [] w (0, 0, false) Q) : CT n_X7_isAtEnd [.ref b] w Q := ct_mk ml_X7_isAtEnd mg_X7_isAtEnd rfl (Nat.le_of_ble_eq_true rfl) h
theorem ml_X7_isNumber : m_l n_X7_isNumber = 1 := by decide +kernel
theorem mr_X7_isNumber : m_r n_X7_isNumber = some .boolean := by decide +kernel
theorem mh_X7_isNumber : m_hh n_X7_isNumber = [] := by decide +kernel
theorem mg_X7_isNumber : (m_gc n_X7_isNumber, m_gs n_X7_isNumber, m_al n_X7_isNumber) = (0, 0, false) := by decide +kernel
theorem ct_X7_isNumber {b : Nat} {w : mW} {Q : mW → mO → Prop} (h : RT n_X7_isNumber 0 [.ref b] [] w (0, 0, false) Q) : CT n_X7_isNumber [.ref b] w Q := ct_mk ml_X7_isNumber mg_X7_isNumber rfl (Nat.le_of_ble_eq_true rfl) h
theorem ml_X7_number : m_l n_X7_number = 1 := by decide +kernel
theorem mr_X7_number : m_r n_X7_number = some .int := by decide +kernel
theorem mh_X7_number : m_hh n_X7_number = [] := by decide +kernel
theorem mg_X7_number : (m_gc n_X7_number, m_gs n_X7_number, m_al n_X7_number) = (0, 0, false) := by decide +kernel
theorem ct_X7_number {b : Nat} {w : mW} {Q : mW → mO → Prop} (h : RT n_X7_number 0 [.ref b] [] w (0, 0, false) Q) : CT n_X7_number [.ref b] w Q := ct_mk ml_X7_number mg_X7_number rfl (Nat.le_of_ble_eq_true rfl) h
theorem ml_X7_isSign : m_l n_X7_isSign = 2 := by decide +kernel
theorem mr_X7_isSign : m_r n_X7_isSign = some .boolean := by decide +kernel
theorem mh_X7_isSign : m_hh n_X7_isSign = [] := by decide +kernel
theorem mg_X7_isSign : (m_gc n_X7_isSign, m_gs n_X7_isSign, m_al n_X7_isSign) = (0, 0, false) := by decide +kernel
theorem ct_X7_isSign {b : Nat} {x0 : Int32} {w : mW} {Q : mW → mO → Prop} (h : RT n_X7_isSign 0 [.ref b, .int x0] [] w (0, 0, false) Q) : CT n_X7_isSign [.ref b, .int x0] w Q := ct_mk ml_X7_isSign mg_X7_isSign rfl (Nat.le_of_ble_eq_true rfl) h
theorem ml_X7_isWord : m_l n_X7_isWord = 3 := by decide +kernel
theorem mr_X7_isWord : m_r n_X7_isWord = some .boolean := by decide +kernel
theorem mh_X7_isWord : m_hh n_X7_isWord = [] := by decide +kernel
theorem mg_X7_isWord : (m_gc n_X7_isWord, m_gs n_X7_isWord, m_al n_X7_isWord) = (0, 0, false) := by decide +kernel
theorem ct_X7_isWord {b : Nat} {r0 : Nat} {w : mW} {Q : mW → mO → Prop} (h : RT n_X7_isWord 0 [.ref b, .ref r0, .null] [] w (0, 0, false) Q) : CT n_X7_isWord [.ref b, .ref r0] w Q := ct_mk ml_X7_isWord mg_X7_isWord rfl (Nat.le_of_ble_eq_true rfl) h
theorem ml_X7_fail : m_l n_X7_fail = 2 := by decide +kernel
theorem mr_X7_fail : m_r n_X7_fail = some .boolean := by decide +kernel
theorem mh_X7_fail : m_hh n_X7_fail = [] := by decide +kernel
theorem mg_X7_fail : (m_gc n_X7_fail, m_gs n_X7_fail, m_al n_X7_fail) = (0, 0, false) := by decide +kernel
theorem ct_X7_fail {b : Nat} {x0 : Int32} {w : mW} {Q : mW → mO → Prop} (h : RT n_X7_fail 0 [.ref b, .int x0] [] w (0, 0, false) Q) : CT n_X7_fail [.ref b, .int x0] w Q := ct_mk ml_X7_fail mg_X7_fail rfl (Nat.le_of_ble_eq_true rfl) h
theorem ml_X7_readEnd : m_l n_X7_readEnd = 1 := by decide +kernel
theorem mr_X7_readEnd : m_r n_X7_readEnd = some .boolean := by decide +kernel
theorem mh_X7_readEnd : m_hh n_X7_readEnd = [] := by decide +kernel
theorem mg_X7_readEnd : (m_gc n_X7_readEnd, m_gs n_X7_readEnd, m_al n_X7_readEnd) = (0, 0, false) := by decide +kernel
theorem ct_X7_readEnd {b : Nat} {w : mW} {Q : mW → mO → Prop} (h : RT n_X7_readEnd 0 [.ref b] [] w (0, 0, false) Q) : CT n_X7_readEnd [.ref b] w Q := ct_mk ml_X7_readEnd mg_X7_readEnd rfl (Nat.le_of_ble_eq_true rfl) h
theorem ml_X7_checkNumber : m_l n_X7_checkNumber = 3 := by decide +kernel
theorem mr_X7_checkNumber : m_r n_X7_checkNumber = some .boolean := by decide +kernel
theorem mh_X7_checkNumber : m_hh n_X7_checkNumber = [] := by decide +kernel
theorem mg_X7_checkNumber : (m_gc n_X7_checkNumber, m_gs n_X7_checkNumber, m_al n_X7_checkNumber) = (0, 0, false) := by decide +kernel
theorem ct_X7_checkNumber {b : Nat} {x0 : Int32} {x1 : Int32} {w : mW} {Q : mW → mO → Prop} (h : RT n_X7_checkNumber 0 [.ref b, .int x0, .int x1] [] w (0, 0, false) Q) : CT n_X7_checkNumber [.ref b, .int x0, .int x1] w Q := ct_mk ml_X7_checkNumber mg_X7_checkNumber rfl (Nat.le_of_ble_eq_true rfl) h
theorem ml_X7_readWord : m_l n_X7_readWord = 1 := by decide +kernel
theorem mr_X7_readWord : m_r n_X7_readWord = none := by decide +kernel
theorem mh_X7_readWord : m_hh n_X7_readWord = [] := by decide +kernel
theorem mg_X7_readWord : (m_gc n_X7_readWord, m_gs n_X7_readWord, m_al n_X7_readWord) = (0, 0, false) := by decide +kernel
theorem ct_X7_readWord {b : Nat} {w : mW} {Q : mW → mO → Prop} (h : RT n_X7_readWord 0 [.ref b] [] w (0, 0, false) Q) : CT n_X7_readWord [.ref b] w Q := ct_mk ml_X7_readWord mg_X7_readWord rfl (Nat.le_of_ble_eq_true rfl) h
theorem ml_X7_readNumber : m_l n_X7_readNumber = 1 := by decide +kernel
theorem mr_X7_readNumber : m_r n_X7_readNumber = none := by decide +kernel
theorem mh_X7_readNumber : m_hh n_X7_readNumber = [] := by decide +kernel
theorem mg_X7_readNumber : (m_gc n_X7_readNumber, m_gs n_X7_readNumber, m_al n_X7_readNumber) = (0, 0, false) := by decide +kernel
theorem ct_X7_readNumber {b : Nat} {w : mW} {Q : mW → mO → Prop} (h : RT n_X7_readNumber 0 [.ref b] [] w (0, 0, false) Q) : CT n_X7_readNumber [.ref b] w Q := ct_mk ml_X7_readNumber mg_X7_readNumber rfl (Nat.le_of_ble_eq_true rfl) h
theorem ml_X7_isBlank : m_l n_X7_isBlank = 1 := by decide +kernel
theorem mr_X7_isBlank : m_r n_X7_isBlank = some .boolean := by decide +kernel
theorem mh_X7_isBlank : m_hh n_X7_isBlank = [] := by decide +kernel
theorem mg_X7_isBlank : (m_gc n_X7_isBlank, m_gs n_X7_isBlank, m_al n_X7_isBlank) = (0, 0, false) := by decide +kernel
theorem ct_X7_isBlank {x0 : Int32} {w : mW} {Q : mW → mO → Prop} (h : RT n_X7_isBlank 0 [.int x0] [] w (0, 0, false) Q) : CT n_X7_isBlank [.int x0] w Q := ct_mk ml_X7_isBlank mg_X7_isBlank rfl (Nat.le_of_ble_eq_true rfl) h
theorem ml_X7_isLetter : m_l n_X7_isLetter = 1 := by decide +kernel
theorem mr_X7_isLetter : m_r n_X7_isLetter = some .boolean := by decide +kernel
theorem mh_X7_isLetter : m_hh n_X7_isLetter = [] := by decide +kernel
theorem mg_X7_isLetter : (m_gc n_X7_isLetter, m_gs n_X7_isLetter, m_al n_X7_isLetter) = (0, 0, false) := by decide +kernel
theorem ct_X7_isLetter {x0 : Int32} {w : mW} {Q : mW → mO → Prop} (h : RT n_X7_isLetter 0 [.int x0] [] w (0, 0, false) Q) : CT n_X7_isLetter [.int x0] w Q := ct_mk ml_X7_isLetter mg_X7_isLetter rfl (Nat.le_of_ble_eq_true rfl) h
theorem ml_X7_isDigit : m_l n_X7_isDigit = 1 := by decide +kernel
theorem mr_X7_isDigit : m_r n_X7_isDigit = some .boolean := by decide +kernel
theorem mh_X7_isDigit : m_hh n_X7_isDigit = [] := by decide +kernel
theorem mg_X7_isDigit : (m_gc n_X7_isDigit, m_gs n_X7_isDigit, m_al n_X7_isDigit) = (0, 0, false) := by decide +kernel
theorem ct_X7_isDigit {x0 : Int32} {w : mW} {Q : mW → mO → Prop} (h : RT n_X7_isDigit 0 [.int x0] [] w (0, 0, false) Q) : CT n_X7_isDigit [.int x0] w Q := ct_mk ml_X7_isDigit mg_X7_isDigit rfl (Nat.le_of_ble_eq_true rfl) h
theorem ml_X8_init : m_l n_X8_init = 1 := by decide +kernel
theorem mr_X8_init : m_r n_X8_init = none := by decide +kernel
theorem mh_X8_init : m_hh n_X8_init = [] := by decide +kernel
theorem mg_X8_init : (m_gc n_X8_init, m_gs n_X8_init, m_al n_X8_init) = (1, 120, true) := by decide +kernel
theorem ct_X8_init {b : Nat} {w : mW} {Q : mW → mO → Prop} (h : RT n_X8_init 0 [.ref b] [] w (1, 120, true) Q) : CT n_X8_init [.ref b] w Q := ct_mk ml_X8_init mg_X8_init rfl (Nat.le_of_ble_eq_true rfl) h
theorem ml_X8_forgetAll : m_l n_X8_forgetAll = 1 := by decide +kernel
theorem mr_X8_forgetAll : m_r n_X8_forgetAll = none := by decide +kernel
theorem mh_X8_forgetAll : m_hh n_X8_forgetAll = [] := by decide +kernel
theorem mg_X8_forgetAll : (m_gc n_X8_forgetAll, m_gs n_X8_forgetAll, m_al n_X8_forgetAll) = (0, 0, false) := by decide +kernel
theorem ct_X8_forgetAll {b : Nat} {w : mW} {Q : mW → mO → Prop} (h : RT n_X8_forgetAll 0 [.ref b] [] w (0, 0, false) Q) : CT n_X8_forgetAll [.ref b] w Q := ct_mk ml_X8_forgetAll mg_X8_forgetAll rfl (Nat.le_of_ble_eq_true rfl) h
theorem ml_X8_copyFrom : m_l n_X8_copyFrom = 2 := by decide +kernel
theorem mr_X8_copyFrom : m_r n_X8_copyFrom = none := by decide +kernel
theorem mh_X8_copyFrom : m_hh n_X8_copyFrom = [] := by decide +kernel
theorem mg_X8_copyFrom : (m_gc n_X8_copyFrom, m_gs n_X8_copyFrom, m_al n_X8_copyFrom) = (0, 0, false) := by decide +kernel
theorem ct_X8_copyFrom {b : Nat} {r0 : Nat} {w : mW} {Q : mW → mO → Prop} (h : RT n_X8_copyFrom 0 [.ref b, .ref r0] [] w (0, 0, false) Q) : CT n_X8_copyFrom [.ref b, .ref r0] w Q := ct_mk ml_X8_copyFrom mg_X8_copyFrom rfl (Nat.le_of_ble_eq_true rfl) h
theorem ml_X8_add : m_l n_X8_add = 6 := by decide +kernel
theorem mr_X8_add : m_r n_X8_add = none := by decide +kernel
theorem mh_X8_add : m_hh n_X8_add = [] := by decide +kernel
theorem mg_X8_add : (m_gc n_X8_add, m_gs n_X8_add, m_al n_X8_add) = (0, 0, false) := by decide +kernel
theorem ct_X8_add {b : Nat} {x0 : Int32} {x1 : Int32} {x2 : Int32} {x3 : Int32} {w : mW} {Q : mW → mO → Prop} (h : RT n_X8_add 0 [.ref b, .int x0, .int x1, .int x2, .int x3, .null] [] w (0, 0, false) Q) : CT n_X8_add [.ref b, .int x0, .int x1, .int x2, .int x3] w Q := ct_mk ml_X8_add mg_X8_add rfl (Nat.le_of_ble_eq_true rfl) h
theorem ml_X8_entry : m_l n_X8_entry = 3 := by decide +kernel
theorem mr_X8_entry : m_r n_X8_entry = some .int := by decide +kernel
theorem mh_X8_entry : m_hh n_X8_entry = [] := by decide +kernel
theorem mg_X8_entry : (m_gc n_X8_entry, m_gs n_X8_entry, m_al n_X8_entry) = (0, 0, false) := by decide +kernel
theorem ct_X8_entry {b : Nat} {x0 : Int32} {x1 : Int32} {w : mW} {Q : mW → mO → Prop} (h : RT n_X8_entry 0 [.ref b, .int x0, .int x1] [] w (0, 0, false) Q) : CT n_X8_entry [.ref b, .int x0, .int x1] w Q := ct_mk ml_X8_entry mg_X8_entry rfl (Nat.le_of_ble_eq_true rfl) h
theorem ml_X9_init : m_l n_X9_init = 2 := by decide +kernel
theorem mr_X9_init : m_r n_X9_init = none := by decide +kernel
theorem mh_X9_init : m_hh n_X9_init = [] := by decide +kernel
theorem mg_X9_init : (m_gc n_X9_init, m_gs n_X9_init, m_al n_X9_init) = (208, 5134, true) := by decide +kernel
theorem ct_X9_init {b : Nat} {w : mW} {Q : mW → mO → Prop} (h : RT n_X9_init 0 [.ref b, .null] [] w (208, 5134, true) Q) : CT n_X9_init [.ref b] w Q := ct_mk ml_X9_init mg_X9_init rfl (Nat.le_of_ble_eq_true rfl) h
theorem ml_X9_append : m_l n_X9_append = 6 := by decide +kernel
theorem mr_X9_append : m_r n_X9_append = some .int := by decide +kernel
theorem mh_X9_append : m_hh n_X9_append = [] := by decide +kernel
theorem mg_X9_append : (m_gc n_X9_append, m_gs n_X9_append, m_al n_X9_append) = (1, 6, false) := by decide +kernel
theorem ct_X9_append {b : Nat} {x0 : Int32} {x1 : Int32} {x2 : Int32} {x3 : Int32} {x4 : Int32} {w : mW} {Q : mW → mO → Prop} (h : RT n_X9_append 0 [.ref b, .int x0, .int x1, .int x2, .int x3, .int x4] [] w (1, 6, false) Q) : CT n_X9_append [.ref b, .int x0, .int x1, .int x2, .int x3, .int x4] w Q := ct_mk ml_X9_append mg_X9_append rfl (Nat.le_of_ble_eq_true rfl) h
theorem ml_X9_truncate : m_l n_X9_truncate = 2 := by decide +kernel
theorem mr_X9_truncate : m_r n_X9_truncate = some .int := by decide +kernel
theorem mh_X9_truncate : m_hh n_X9_truncate = [] := by decide +kernel
theorem mg_X9_truncate : (m_gc n_X9_truncate, m_gs n_X9_truncate, m_al n_X9_truncate) = (1, 6, false) := by decide +kernel
theorem ct_X9_truncate {b : Nat} {x0 : Int32} {w : mW} {Q : mW → mO → Prop} (h : RT n_X9_truncate 0 [.ref b, .int x0] [] w (1, 6, false) Q) : CT n_X9_truncate [.ref b, .int x0] w Q := ct_mk ml_X9_truncate mg_X9_truncate rfl (Nat.le_of_ble_eq_true rfl) h
theorem ml_X9_setup : m_l n_X9_setup = 3 := by decide +kernel
theorem mr_X9_setup : m_r n_X9_setup = some .int := by decide +kernel
theorem mh_X9_setup : m_hh n_X9_setup = [] := by decide +kernel
theorem mg_X9_setup : (m_gc n_X9_setup, m_gs n_X9_setup, m_al n_X9_setup) = (0, 0, false) := by decide +kernel
theorem ct_X9_setup {b : Nat} {w : mW} {Q : mW → mO → Prop} (h : RT n_X9_setup 0 [.ref b, .null, .null] [] w (0, 0, false) Q) : CT n_X9_setup [.ref b] w Q := ct_mk ml_X9_setup mg_X9_setup rfl (Nat.le_of_ble_eq_true rfl) h
theorem ml_X9_setPin : m_l n_X9_setPin = 4 := by decide +kernel
theorem mr_X9_setPin : m_r n_X9_setPin = some .int := by decide +kernel
theorem mh_X9_setPin : m_hh n_X9_setPin = [] := by decide +kernel
theorem mg_X9_setPin : (m_gc n_X9_setPin, m_gs n_X9_setPin, m_al n_X9_setPin) = (3, 18, false) := by decide +kernel
theorem ct_X9_setPin {b : Nat} {x0 : Int32} {x1 : Int32} {w : mW} {Q : mW → mO → Prop} (h : RT n_X9_setPin 0 [.ref b, .int x0, .int x1, .null] [] w (3, 18, false) Q) : CT n_X9_setPin [.ref b, .int x0, .int x1] w Q := ct_mk ml_X9_setPin mg_X9_setPin rfl (Nat.le_of_ble_eq_true rfl) h
theorem ml_X9_setPins : m_l n_X9_setPins = 3 := by decide +kernel
theorem mr_X9_setPins : m_r n_X9_setPins = some .int := by decide +kernel
theorem mh_X9_setPins : m_hh n_X9_setPins = [] := by decide +kernel
theorem mg_X9_setPins : (m_gc n_X9_setPins, m_gs n_X9_setPins, m_al n_X9_setPins) = (2, 12, false) := by decide +kernel
theorem ct_X9_setPins {b : Nat} {x0 : Int32} {w : mW} {Q : mW → mO → Prop} (h : RT n_X9_setPins 0 [.ref b, .int x0, .null] [] w (2, 12, false) Q) : CT n_X9_setPins [.ref b, .int x0] w Q := ct_mk ml_X9_setPins mg_X9_setPins rfl (Nat.le_of_ble_eq_true rfl) h
theorem ml_X9_turn : m_l n_X9_turn = 2 := by decide +kernel
theorem mr_X9_turn : m_r n_X9_turn = some .int := by decide +kernel
theorem mh_X9_turn : m_hh n_X9_turn = [] := by decide +kernel
theorem mg_X9_turn : (m_gc n_X9_turn, m_gs n_X9_turn, m_al n_X9_turn) = (2, 12, false) := by decide +kernel
theorem ct_X9_turn {b : Nat} {x0 : Int32} {w : mW} {Q : mW → mO → Prop} (h : RT n_X9_turn 0 [.ref b, .int x0] [] w (2, 12, false) Q) : CT n_X9_turn [.ref b, .int x0] w Q := ct_mk ml_X9_turn mg_X9_turn rfl (Nat.le_of_ble_eq_true rfl) h
theorem ml_X9_shift : m_l n_X9_shift = 4 := by decide +kernel
theorem mr_X9_shift : m_r n_X9_shift = some .int := by decide +kernel
theorem mh_X9_shift : m_hh n_X9_shift = [] := by decide +kernel
theorem mg_X9_shift : (m_gc n_X9_shift, m_gs n_X9_shift, m_al n_X9_shift) = (2, 12, false) := by decide +kernel
theorem ct_X9_shift {b : Nat} {x0 : Int32} {w : mW} {Q : mW → mO → Prop} (h : RT n_X9_shift 0 [.ref b, .int x0, .null, .null] [] w (2, 12, false) Q) : CT n_X9_shift [.ref b, .int x0] w Q := ct_mk ml_X9_shift mg_X9_shift rfl (Nat.le_of_ble_eq_true rfl) h
theorem ml_X9_clear : m_l n_X9_clear = 2 := by decide +kernel
theorem mr_X9_clear : m_r n_X9_clear = some .int := by decide +kernel
theorem mh_X9_clear : m_hh n_X9_clear = [] := by decide +kernel
theorem mg_X9_clear : (m_gc n_X9_clear, m_gs n_X9_clear, m_al n_X9_clear) = (2, 12, false) := by decide +kernel
theorem ct_X9_clear {b : Nat} {x0 : Int32} {w : mW} {Q : mW → mO → Prop} (h : RT n_X9_clear 0 [.ref b, .int x0] [] w (2, 12, false) Q) : CT n_X9_clear [.ref b, .int x0] w Q := ct_mk ml_X9_clear mg_X9_clear rfl (Nat.le_of_ble_eq_true rfl) h
theorem ml_X9_multiply : m_l n_X9_multiply = 3 := by decide +kernel
theorem mr_X9_multiply : m_r n_X9_multiply = some .int := by decide +kernel
theorem mh_X9_multiply : m_hh n_X9_multiply = [] := by decide +kernel
theorem mg_X9_multiply : (m_gc n_X9_multiply, m_gs n_X9_multiply, m_al n_X9_multiply) = (3, 18, false) := by decide +kernel
theorem ct_X9_multiply {b : Nat} {x0 : Int32} {x1 : Int32} {w : mW} {Q : mW → mO → Prop} (h : RT n_X9_multiply 0 [.ref b, .int x0, .int x1] [] w (3, 18, false) Q) : CT n_X9_multiply [.ref b, .int x0, .int x1] w Q := ct_mk ml_X9_multiply mg_X9_multiply rfl (Nat.le_of_ble_eq_true rfl) h
theorem ml_X9_divide : m_l n_X9_divide = 1 := by decide +kernel
theorem mr_X9_divide : m_r n_X9_divide = some .int := by decide +kernel
theorem mh_X9_divide : m_hh n_X9_divide = [] := by decide +kernel
theorem mg_X9_divide : (m_gc n_X9_divide, m_gs n_X9_divide, m_al n_X9_divide) = (2, 12, false) := by decide +kernel
theorem ct_X9_divide {b : Nat} {w : mW} {Q : mW → mO → Prop} (h : RT n_X9_divide 0 [.ref b] [] w (2, 12, false) Q) : CT n_X9_divide [.ref b] w Q := ct_mk ml_X9_divide mg_X9_divide rfl (Nat.le_of_ble_eq_true rfl) h
theorem ml_X9_transfer : m_l n_X9_transfer = 1 := by decide +kernel
theorem mr_X9_transfer : m_r n_X9_transfer = some .int := by decide +kernel
theorem mh_X9_transfer : m_hh n_X9_transfer = [] := by decide +kernel
theorem mg_X9_transfer : (m_gc n_X9_transfer, m_gs n_X9_transfer, m_al n_X9_transfer) = (1, 6, false) := by decide +kernel
theorem ct_X9_transfer {b : Nat} {w : mW} {Q : mW → mO → Prop} (h : RT n_X9_transfer 0 [.ref b] [] w (1, 6, false) Q) : CT n_X9_transfer [.ref b] w Q := ct_mk ml_X9_transfer mg_X9_transfer rfl (Nat.le_of_ble_eq_true rfl) h
theorem ml_X9_crankBack : m_l n_X9_crankBack = 1 := by decide +kernel
theorem mr_X9_crankBack : m_r n_X9_crankBack = some .int := by decide +kernel
theorem mh_X9_crankBack : m_hh n_X9_crankBack = [] := by decide +kernel
theorem mg_X9_crankBack : (m_gc n_X9_crankBack, m_gs n_X9_crankBack, m_al n_X9_crankBack) = (1, 6, false) := by decide +kernel
theorem ct_X9_crankBack {b : Nat} {w : mW} {Q : mW → mO → Prop} (h : RT n_X9_crankBack 0 [.ref b] [] w (1, 6, false) Q) : CT n_X9_crankBack [.ref b] w Q := ct_mk ml_X9_crankBack mg_X9_crankBack rfl (Nat.le_of_ble_eq_true rfl) h
theorem ml_X9_free : m_l n_X9_free = 1 := by decide +kernel
theorem mr_X9_free : m_r n_X9_free = some .int := by decide +kernel
theorem mh_X9_free : m_hh n_X9_free = [] := by decide +kernel
theorem mg_X9_free : (m_gc n_X9_free, m_gs n_X9_free, m_al n_X9_free) = (1, 6, false) := by decide +kernel
theorem ct_X9_free {b : Nat} {w : mW} {Q : mW → mO → Prop} (h : RT n_X9_free 0 [.ref b] [] w (1, 6, false) Q) : CT n_X9_free [.ref b] w Q := ct_mk ml_X9_free mg_X9_free rfl (Nat.le_of_ble_eq_true rfl) h
theorem ml_X9_damage : m_l n_X9_damage = 3 := by decide +kernel
theorem mr_X9_damage : m_r n_X9_damage = some .int := by decide +kernel
theorem mh_X9_damage : m_hh n_X9_damage = [] := by decide +kernel
theorem mg_X9_damage : (m_gc n_X9_damage, m_gs n_X9_damage, m_al n_X9_damage) = (3, 18, false) := by decide +kernel
theorem ct_X9_damage {b : Nat} {x0 : Int32} {x1 : Int32} {w : mW} {Q : mW → mO → Prop} (h : RT n_X9_damage 0 [.ref b, .int x0, .int x1] [] w (3, 18, false) Q) : CT n_X9_damage [.ref b, .int x0, .int x1] w Q := ct_mk ml_X9_damage mg_X9_damage rfl (Nat.le_of_ble_eq_true rfl) h
theorem ml_X9_repair : m_l n_X9_repair = 3 := by decide +kernel
theorem mr_X9_repair : m_r n_X9_repair = some .int := by decide +kernel
theorem mh_X9_repair : m_hh n_X9_repair = [] := by decide +kernel
theorem mg_X9_repair : (m_gc n_X9_repair, m_gs n_X9_repair, m_al n_X9_repair) = (2, 12, false) := by decide +kernel
theorem ct_X9_repair {b : Nat} {x0 : Int32} {w : mW} {Q : mW → mO → Prop} (h : RT n_X9_repair 0 [.ref b, .int x0, .null] [] w (2, 12, false) Q) : CT n_X9_repair [.ref b, .int x0] w Q := ct_mk ml_X9_repair mg_X9_repair rfl (Nat.le_of_ble_eq_true rfl) h
theorem ml_X9_state : m_l n_X9_state = 2 := by decide +kernel
theorem mr_X9_state : m_r n_X9_state = some .int := by decide +kernel
theorem mh_X9_state : m_hh n_X9_state = [] := by decide +kernel
theorem mg_X9_state : (m_gc n_X9_state, m_gs n_X9_state, m_al n_X9_state) = (1, 6, false) := by decide +kernel
theorem ct_X9_state {b : Nat} {x0 : Int32} {w : mW} {Q : mW → mO → Prop} (h : RT n_X9_state 0 [.ref b, .int x0] [] w (1, 6, false) Q) : CT n_X9_state [.ref b, .int x0] w Q := ct_mk ml_X9_state mg_X9_state rfl (Nat.le_of_ble_eq_true rfl) h
theorem ml_X9_count : m_l n_X9_count = 2 := by decide +kernel
theorem mr_X9_count : m_r n_X9_count = some .int := by decide +kernel
theorem mh_X9_count : m_hh n_X9_count = [] := by decide +kernel
theorem mg_X9_count : (m_gc n_X9_count, m_gs n_X9_count, m_al n_X9_count) = (1, 6, false) := by decide +kernel
theorem ct_X9_count {b : Nat} {x0 : Int32} {w : mW} {Q : mW → mO → Prop} (h : RT n_X9_count 0 [.ref b, .int x0] [] w (1, 6, false) Q) : CT n_X9_count [.ref b, .int x0] w Q := ct_mk ml_X9_count mg_X9_count rfl (Nat.le_of_ble_eq_true rfl) h
theorem ml_X9_digit : m_l n_X9_digit = 2 := by decide +kernel
theorem mr_X9_digit : m_r n_X9_digit = some .int := by decide +kernel
theorem mh_X9_digit : m_hh n_X9_digit = [] := by decide +kernel
theorem mg_X9_digit : (m_gc n_X9_digit, m_gs n_X9_digit, m_al n_X9_digit) = (1, 6, false) := by decide +kernel
theorem ct_X9_digit {b : Nat} {x0 : Int32} {w : mW} {Q : mW → mO → Prop} (h : RT n_X9_digit 0 [.ref b, .int x0] [] w (1, 6, false) Q) : CT n_X9_digit [.ref b, .int x0] w Q := ct_mk ml_X9_digit mg_X9_digit rfl (Nat.le_of_ble_eq_true rfl) h
theorem ml_X9_counterDigit : m_l n_X9_counterDigit = 2 := by decide +kernel
theorem mr_X9_counterDigit : m_r n_X9_counterDigit = some .int := by decide +kernel
theorem mh_X9_counterDigit : m_hh n_X9_counterDigit = [] := by decide +kernel
theorem mg_X9_counterDigit : (m_gc n_X9_counterDigit, m_gs n_X9_counterDigit, m_al n_X9_counterDigit) = (1, 6, false) := by decide +kernel
theorem ct_X9_counterDigit {b : Nat} {x0 : Int32} {w : mW} {Q : mW → mO → Prop} (h : RT n_X9_counterDigit 0 [.ref b, .int x0] [] w (1, 6, false) Q) : CT n_X9_counterDigit [.ref b, .int x0] w Q := ct_mk ml_X9_counterDigit mg_X9_counterDigit rfl (Nat.le_of_ble_eq_true rfl) h
theorem ml_X9_pin : m_l n_X9_pin = 2 := by decide +kernel
theorem mr_X9_pin : m_r n_X9_pin = some .int := by decide +kernel
theorem mh_X9_pin : m_hh n_X9_pin = [] := by decide +kernel
theorem mg_X9_pin : (m_gc n_X9_pin, m_gs n_X9_pin, m_al n_X9_pin) = (1, 6, false) := by decide +kernel
theorem ct_X9_pin {b : Nat} {x0 : Int32} {w : mW} {Q : mW → mO → Prop} (h : RT n_X9_pin 0 [.ref b, .int x0] [] w (1, 6, false) Q) : CT n_X9_pin [.ref b, .int x0] w Q := ct_mk ml_X9_pin mg_X9_pin rfl (Nat.le_of_ble_eq_true rfl) h
theorem ml_X9_result : m_l n_X9_result = 1 := by decide +kernel
theorem mr_X9_result : m_r n_X9_result = some .long := by decide +kernel
theorem mh_X9_result : m_hh n_X9_result = [] := by decide +kernel
theorem mg_X9_result : (m_gc n_X9_result, m_gs n_X9_result, m_al n_X9_result) = (0, 0, false) := by decide +kernel
theorem ct_X9_result {b : Nat} {w : mW} {Q : mW → mO → Prop} (h : RT n_X9_result 0 [.ref b] [] w (0, 0, false) Q) : CT n_X9_result [.ref b] w Q := ct_mk ml_X9_result mg_X9_result rfl (Nat.le_of_ble_eq_true rfl) h
theorem ml_X9_counter : m_l n_X9_counter = 1 := by decide +kernel
theorem mr_X9_counter : m_r n_X9_counter = some .int := by decide +kernel
theorem mh_X9_counter : m_hh n_X9_counter = [] := by decide +kernel
theorem mg_X9_counter : (m_gc n_X9_counter, m_gs n_X9_counter, m_al n_X9_counter) = (0, 0, false) := by decide +kernel
theorem ct_X9_counter {b : Nat} {w : mW} {Q : mW → mO → Prop} (h : RT n_X9_counter 0 [.ref b] [] w (0, 0, false) Q) : CT n_X9_counter [.ref b] w Q := ct_mk ml_X9_counter mg_X9_counter rfl (Nat.le_of_ble_eq_true rfl) h
theorem ml_X9_complement : m_l n_X9_complement = 1 := by decide +kernel
theorem mr_X9_complement : m_r n_X9_complement = some .long := by decide +kernel
theorem mh_X9_complement : m_hh n_X9_complement = [] := by decide +kernel
theorem mg_X9_complement : (m_gc n_X9_complement, m_gs n_X9_complement, m_al n_X9_complement) = (0, 0, false) := by decide +kernel
theorem ct_X9_complement {b : Nat} {w : mW} {Q : mW → mO → Prop} (h : RT n_X9_complement 0 [.ref b] [] w (0, 0, false) Q) : CT n_X9_complement [.ref b] w Q := ct_mk ml_X9_complement mg_X9_complement rfl (Nat.le_of_ble_eq_true rfl) h
theorem ml_X9_fault : m_l n_X9_fault = 2 := by decide +kernel
theorem mr_X9_fault : m_r n_X9_fault = some .int := by decide +kernel
theorem mh_X9_fault : m_hh n_X9_fault = [] := by decide +kernel
theorem mg_X9_fault : (m_gc n_X9_fault, m_gs n_X9_fault, m_al n_X9_fault) = (1, 6, false) := by decide +kernel
theorem ct_X9_fault {b : Nat} {x0 : Int32} {w : mW} {Q : mW → mO → Prop} (h : RT n_X9_fault 0 [.ref b, .int x0] [] w (1, 6, false) Q) : CT n_X9_fault [.ref b, .int x0] w Q := ct_mk ml_X9_fault mg_X9_fault rfl (Nat.le_of_ble_eq_true rfl) h
theorem ml_X9_isLeverSet : m_l n_X9_isLeverSet = 2 := by decide +kernel
theorem mr_X9_isLeverSet : m_r n_X9_isLeverSet = some .boolean := by decide +kernel
theorem mh_X9_isLeverSet : m_hh n_X9_isLeverSet = [] := by decide +kernel
theorem mg_X9_isLeverSet : (m_gc n_X9_isLeverSet, m_gs n_X9_isLeverSet, m_al n_X9_isLeverSet) = (1, 6, false) := by decide +kernel
theorem ct_X9_isLeverSet {b : Nat} {x0 : Int32} {w : mW} {Q : mW → mO → Prop} (h : RT n_X9_isLeverSet 0 [.ref b, .int x0] [] w (1, 6, false) Q) : CT n_X9_isLeverSet [.ref b, .int x0] w Q := ct_mk ml_X9_isLeverSet mg_X9_isLeverSet rfl (Nat.le_of_ble_eq_true rfl) h
theorem ml_X9_jam : m_l n_X9_jam = 2 := by decide +kernel
theorem mr_X9_jam : m_r n_X9_jam = some .int := by decide +kernel
theorem mh_X9_jam : m_hh n_X9_jam = [] := by decide +kernel
theorem mg_X9_jam : (m_gc n_X9_jam, m_gs n_X9_jam, m_al n_X9_jam) = (2, 12, false) := by decide +kernel
theorem ct_X9_jam {b : Nat} {x0 : Int32} {w : mW} {Q : mW → mO → Prop} (h : RT n_X9_jam 0 [.ref b, .int x0] [] w (2, 12, false) Q) : CT n_X9_jam [.ref b, .int x0] w Q := ct_mk ml_X9_jam mg_X9_jam rfl (Nat.le_of_ble_eq_true rfl) h
theorem ml_X9_steps : m_l n_X9_steps = 2 := by decide +kernel
theorem mr_X9_steps : m_r n_X9_steps = some .int := by decide +kernel
theorem mh_X9_steps : m_hh n_X9_steps = [] := by decide +kernel
theorem mg_X9_steps : (m_gc n_X9_steps, m_gs n_X9_steps, m_al n_X9_steps) = (1, 6, false) := by decide +kernel
theorem ct_X9_steps {b : Nat} {x0 : Int32} {w : mW} {Q : mW → mO → Prop} (h : RT n_X9_steps 0 [.ref b, .int x0] [] w (1, 6, false) Q) : CT n_X9_steps [.ref b, .int x0] w Q := ct_mk ml_X9_steps mg_X9_steps rfl (Nat.le_of_ble_eq_true rfl) h
theorem ml_X9_busiest : m_l n_X9_busiest = 1 := by decide +kernel
theorem mr_X9_busiest : m_r n_X9_busiest = some .int := by decide +kernel
theorem mh_X9_busiest : m_hh n_X9_busiest = [] := by decide +kernel
theorem mg_X9_busiest : (m_gc n_X9_busiest, m_gs n_X9_busiest, m_al n_X9_busiest) = (0, 0, false) := by decide +kernel
theorem ct_X9_busiest {b : Nat} {w : mW} {Q : mW → mO → Prop} (h : RT n_X9_busiest 0 [.ref b] [] w (0, 0, false) Q) : CT n_X9_busiest [.ref b] w Q := ct_mk ml_X9_busiest mg_X9_busiest rfl (Nat.le_of_ble_eq_true rfl) h
theorem ml_X9_logged : m_l n_X9_logged = 3 := by decide +kernel
theorem mr_X9_logged : m_r n_X9_logged = some .int := by decide +kernel
theorem mh_X9_logged : m_hh n_X9_logged = [] := by decide +kernel
theorem mg_X9_logged : (m_gc n_X9_logged, m_gs n_X9_logged, m_al n_X9_logged) = (1, 6, false) := by decide +kernel
theorem ct_X9_logged {b : Nat} {x0 : Int32} {x1 : Int32} {w : mW} {Q : mW → mO → Prop} (h : RT n_X9_logged 0 [.ref b, .int x0, .int x1] [] w (1, 6, false) Q) : CT n_X9_logged [.ref b, .int x0, .int x1] w Q := ct_mk ml_X9_logged mg_X9_logged rfl (Nat.le_of_ble_eq_true rfl) h
theorem ml_X9_show : m_l n_X9_show = 3 := by decide +kernel
theorem mr_X9_show : m_r n_X9_show = some .int := by decide +kernel
theorem mh_X9_show : m_hh n_X9_show = [] := by decide +kernel
theorem mg_X9_show : (m_gc n_X9_show, m_gs n_X9_show, m_al n_X9_show) = (0, 0, false) := by decide +kernel
theorem ct_X9_show {b : Nat} {w : mW} {Q : mW → mO → Prop} (h : RT n_X9_show 0 [.ref b, .null, .null] [] w (0, 0, false) Q) : CT n_X9_show [.ref b] w Q := ct_mk ml_X9_show mg_X9_show rfl (Nat.le_of_ble_eq_true rfl) h
theorem ml_X9_textByte : m_l n_X9_textByte = 2 := by decide +kernel
theorem mr_X9_textByte : m_r n_X9_textByte = some .int := by decide +kernel
theorem mh_X9_textByte : m_hh n_X9_textByte = [] := by decide +kernel
theorem mg_X9_textByte : (m_gc n_X9_textByte, m_gs n_X9_textByte, m_al n_X9_textByte) = (1, 6, false) := by decide +kernel
theorem ct_X9_textByte {b : Nat} {x0 : Int32} {w : mW} {Q : mW → mO → Prop} (h : RT n_X9_textByte 0 [.ref b, .int x0] [] w (1, 6, false) Q) : CT n_X9_textByte [.ref b, .int x0] w Q := ct_mk ml_X9_textByte mg_X9_textByte rfl (Nat.le_of_ble_eq_true rfl) h
theorem ml_X9_dueResult : m_l n_X9_dueResult = 1 := by decide +kernel
theorem mr_X9_dueResult : m_r n_X9_dueResult = some .long := by decide +kernel
theorem mh_X9_dueResult : m_hh n_X9_dueResult = [] := by decide +kernel
theorem mg_X9_dueResult : (m_gc n_X9_dueResult, m_gs n_X9_dueResult, m_al n_X9_dueResult) = (0, 0, false) := by decide +kernel
theorem ct_X9_dueResult {b : Nat} {w : mW} {Q : mW → mO → Prop} (h : RT n_X9_dueResult 0 [.ref b] [] w (0, 0, false) Q) : CT n_X9_dueResult [.ref b] w Q := ct_mk ml_X9_dueResult mg_X9_dueResult rfl (Nat.le_of_ble_eq_true rfl) h
theorem ml_X9_isRight : m_l n_X9_isRight = 1 := by decide +kernel
theorem mr_X9_isRight : m_r n_X9_isRight = some .boolean := by decide +kernel
theorem mh_X9_isRight : m_hh n_X9_isRight = [] := by decide +kernel
theorem mg_X9_isRight : (m_gc n_X9_isRight, m_gs n_X9_isRight, m_al n_X9_isRight) = (0, 0, false) := by decide +kernel
theorem ct_X9_isRight {b : Nat} {w : mW} {Q : mW → mO → Prop} (h : RT n_X9_isRight 0 [.ref b] [] w (0, 0, false) Q) : CT n_X9_isRight [.ref b] w Q := ct_mk ml_X9_isRight mg_X9_isRight rfl (Nat.le_of_ble_eq_true rfl) h
theorem ml_X9_firstWrong : m_l n_X9_firstWrong = 2 := by decide +kernel
theorem mr_X9_firstWrong : m_r n_X9_firstWrong = some .int := by decide +kernel
theorem mh_X9_firstWrong : m_hh n_X9_firstWrong = [] := by decide +kernel
theorem mg_X9_firstWrong : (m_gc n_X9_firstWrong, m_gs n_X9_firstWrong, m_al n_X9_firstWrong) = (0, 0, false) := by decide +kernel
theorem ct_X9_firstWrong {b : Nat} {w : mW} {Q : mW → mO → Prop} (h : RT n_X9_firstWrong 0 [.ref b, .null] [] w (0, 0, false) Q) : CT n_X9_firstWrong [.ref b] w Q := ct_mk ml_X9_firstWrong mg_X9_firstWrong rfl (Nat.le_of_ble_eq_true rfl) h
theorem ml_X9_wrongDigits : m_l n_X9_wrongDigits = 3 := by decide +kernel
theorem mr_X9_wrongDigits : m_r n_X9_wrongDigits = some .int := by decide +kernel
theorem mh_X9_wrongDigits : m_hh n_X9_wrongDigits = [] := by decide +kernel
theorem mg_X9_wrongDigits : (m_gc n_X9_wrongDigits, m_gs n_X9_wrongDigits, m_al n_X9_wrongDigits) = (0, 0, false) := by decide +kernel
theorem ct_X9_wrongDigits {b : Nat} {w : mW} {Q : mW → mO → Prop} (h : RT n_X9_wrongDigits 0 [.ref b, .null, .null] [] w (0, 0, false) Q) : CT n_X9_wrongDigits [.ref b] w Q := ct_mk ml_X9_wrongDigits mg_X9_wrongDigits rfl (Nat.le_of_ble_eq_true rfl) h
theorem ml_X9_error : m_l n_X9_error = 1 := by decide +kernel
theorem mr_X9_error : m_r n_X9_error = some .long := by decide +kernel
theorem mh_X9_error : m_hh n_X9_error = [] := by decide +kernel
theorem mg_X9_error : (m_gc n_X9_error, m_gs n_X9_error, m_al n_X9_error) = (0, 0, false) := by decide +kernel
theorem ct_X9_error {b : Nat} {w : mW} {Q : mW → mO → Prop} (h : RT n_X9_error 0 [.ref b] [] w (0, 0, false) Q) : CT n_X9_error [.ref b] w Q := ct_mk ml_X9_error mg_X9_error rfl (Nat.le_of_ble_eq_true rfl) h
theorem ml_X9_residue : m_l n_X9_residue = 3 := by decide +kernel
theorem mr_X9_residue : m_r n_X9_residue = some .int := by decide +kernel
theorem mh_X9_residue : m_hh n_X9_residue = [] := by decide +kernel
theorem mg_X9_residue : (m_gc n_X9_residue, m_gs n_X9_residue, m_al n_X9_residue) = (0, 0, false) := by decide +kernel
theorem ct_X9_residue {b : Nat} {w : mW} {Q : mW → mO → Prop} (h : RT n_X9_residue 0 [.ref b, .null, .null] [] w (0, 0, false) Q) : CT n_X9_residue [.ref b] w Q := ct_mk ml_X9_residue mg_X9_residue rfl (Nat.le_of_ble_eq_true rfl) h
theorem ml_X9_resultAfter : m_l n_X9_resultAfter = 2 := by decide +kernel
theorem mr_X9_resultAfter : m_r n_X9_resultAfter = some .long := by decide +kernel
theorem mh_X9_resultAfter : m_hh n_X9_resultAfter = [] := by decide +kernel
theorem mg_X9_resultAfter : (m_gc n_X9_resultAfter, m_gs n_X9_resultAfter, m_al n_X9_resultAfter) = (2, 12, false) := by decide +kernel
theorem ct_X9_resultAfter {b : Nat} {x0 : Int32} {w : mW} {Q : mW → mO → Prop} (h : RT n_X9_resultAfter 0 [.ref b, .int x0] [] w (2, 12, false) Q) : CT n_X9_resultAfter [.ref b, .int x0] w Q := ct_mk ml_X9_resultAfter mg_X9_resultAfter rfl (Nat.le_of_ble_eq_true rfl) h
theorem ml_X9_movedBy : m_l n_X9_movedBy = 2 := by decide +kernel
theorem mr_X9_movedBy : m_r n_X9_movedBy = some .int := by decide +kernel
theorem mh_X9_movedBy : m_hh n_X9_movedBy = [] := by decide +kernel
theorem mg_X9_movedBy : (m_gc n_X9_movedBy, m_gs n_X9_movedBy, m_al n_X9_movedBy) = (1, 6, false) := by decide +kernel
theorem ct_X9_movedBy {b : Nat} {x0 : Int32} {w : mW} {Q : mW → mO → Prop} (h : RT n_X9_movedBy 0 [.ref b, .int x0] [] w (1, 6, false) Q) : CT n_X9_movedBy [.ref b, .int x0] w Q := ct_mk ml_X9_movedBy mg_X9_movedBy rfl (Nat.le_of_ble_eq_true rfl) h
theorem ml_X9_ripple : m_l n_X9_ripple = 2 := by decide +kernel
theorem mr_X9_ripple : m_r n_X9_ripple = some .int := by decide +kernel
theorem mh_X9_ripple : m_hh n_X9_ripple = [] := by decide +kernel
theorem mg_X9_ripple : (m_gc n_X9_ripple, m_gs n_X9_ripple, m_al n_X9_ripple) = (1, 6, false) := by decide +kernel
theorem ct_X9_ripple {b : Nat} {x0 : Int32} {w : mW} {Q : mW → mO → Prop} (h : RT n_X9_ripple 0 [.ref b, .int x0] [] w (1, 6, false) Q) : CT n_X9_ripple [.ref b, .int x0] w Q := ct_mk ml_X9_ripple mg_X9_ripple rfl (Nat.le_of_ble_eq_true rfl) h
theorem ml_X9_turnsToBell : m_l n_X9_turnsToBell = 4 := by decide +kernel
theorem mr_X9_turnsToBell : m_r n_X9_turnsToBell = some .int := by decide +kernel
theorem mh_X9_turnsToBell : m_hh n_X9_turnsToBell = [] := by decide +kernel
theorem mg_X9_turnsToBell : (m_gc n_X9_turnsToBell, m_gs n_X9_turnsToBell, m_al n_X9_turnsToBell) = (2, 12, false) := by decide +kernel
theorem ct_X9_turnsToBell {b : Nat} {x0 : Int32} {x1 : Int32} {w : mW} {Q : mW → mO → Prop} (h : RT n_X9_turnsToBell 0 [.ref b, .int x0, .int x1, .null] [] w (2, 12, false) Q) : CT n_X9_turnsToBell [.ref b, .int x0, .int x1] w Q := ct_mk ml_X9_turnsToBell mg_X9_turnsToBell rfl (Nat.le_of_ble_eq_true rfl) h
theorem ml_X9_turnsFor : m_l n_X9_turnsFor = 3 := by decide +kernel
theorem mr_X9_turnsFor : m_r n_X9_turnsFor = some .int := by decide +kernel
theorem mh_X9_turnsFor : m_hh n_X9_turnsFor = [] := by decide +kernel
theorem mg_X9_turnsFor : (m_gc n_X9_turnsFor, m_gs n_X9_turnsFor, m_al n_X9_turnsFor) = (1, 6, false) := by decide +kernel
theorem ct_X9_turnsFor {b : Nat} {x0 : Int32} {x1 : Int32} {w : mW} {Q : mW → mO → Prop} (h : RT n_X9_turnsFor 0 [.ref b, .int x0, .int x1] [] w (1, 6, false) Q) : CT n_X9_turnsFor [.ref b, .int x0, .int x1] w Q := ct_mk ml_X9_turnsFor mg_X9_turnsFor rfl (Nat.le_of_ble_eq_true rfl) h
theorem ml_X9_soundness : m_l n_X9_soundness = 3 := by decide +kernel
theorem mr_X9_soundness : m_r n_X9_soundness = some .float := by decide +kernel
theorem mh_X9_soundness : m_hh n_X9_soundness = [] := by decide +kernel
theorem mg_X9_soundness : (m_gc n_X9_soundness, m_gs n_X9_soundness, m_al n_X9_soundness) = (0, 0, false) := by decide +kernel
theorem ct_X9_soundness {b : Nat} {w : mW} {Q : mW → mO → Prop} (h : RT n_X9_soundness 0 [.ref b, .null, .null] [] w (0, 0, false) Q) : CT n_X9_soundness [.ref b] w Q := ct_mk ml_X9_soundness mg_X9_soundness rfl (Nat.le_of_ble_eq_true rfl) h
theorem ml_X9_requireNoJam : m_l n_X9_requireNoJam = 1 := by decide +kernel
theorem mr_X9_requireNoJam : m_r n_X9_requireNoJam = none := by decide +kernel
theorem mh_X9_requireNoJam : m_hh n_X9_requireNoJam = [] := by decide +kernel
theorem mg_X9_requireNoJam : (m_gc n_X9_requireNoJam, m_gs n_X9_requireNoJam, m_al n_X9_requireNoJam) = (1, 6, false) := by decide +kernel
theorem ct_X9_requireNoJam {b : Nat} {w : mW} {Q : mW → mO → Prop} (h : RT n_X9_requireNoJam 0 [.ref b] [] w (1, 6, false) Q) : CT n_X9_requireNoJam [.ref b] w Q := ct_mk ml_X9_requireNoJam mg_X9_requireNoJam rfl (Nat.le_of_ble_eq_true rfl) h
theorem ml_X9_requireJam : m_l n_X9_requireJam = 1 := by decide +kernel
theorem mr_X9_requireJam : m_r n_X9_requireJam = none := by decide +kernel
theorem mh_X9_requireJam : m_hh n_X9_requireJam = [] := by decide +kernel
theorem mg_X9_requireJam : (m_gc n_X9_requireJam, m_gs n_X9_requireJam, m_al n_X9_requireJam) = (1, 6, false) := by decide +kernel
theorem ct_X9_requireJam {b : Nat} {w : mW} {Q : mW → mO → Prop} (h : RT n_X9_requireJam 0 [.ref b] [] w (1, 6, false) Q) : CT n_X9_requireJam [.ref b] w Q := ct_mk ml_X9_requireJam mg_X9_requireJam rfl (Nat.le_of_ble_eq_true rfl) h
theorem ml_X9_requireWheel : m_l n_X9_requireWheel = 2 := by decide +kernel
theorem mr_X9_requireWheel : m_r n_X9_requireWheel = none := by decide +kernel
theorem mh_X9_requireWheel : m_hh n_X9_requireWheel = [] := by decide +kernel
theorem mg_X9_requireWheel : (m_gc n_X9_requireWheel, m_gs n_X9_requireWheel, m_al n_X9_requireWheel) = (1, 6, false) := by decide +kernel
theorem ct_X9_requireWheel {b : Nat} {x0 : Int32} {w : mW} {Q : mW → mO → Prop} (h : RT n_X9_requireWheel 0 [.ref b, .int x0] [] w (1, 6, false) Q) : CT n_X9_requireWheel [.ref b, .int x0] w Q := ct_mk ml_X9_requireWheel mg_X9_requireWheel rfl (Nat.le_of_ble_eq_true rfl) h
theorem ml_X9_requirePin : m_l n_X9_requirePin = 2 := by decide +kernel
theorem mr_X9_requirePin : m_r n_X9_requirePin = none := by decide +kernel
theorem mh_X9_requirePin : m_hh n_X9_requirePin = [] := by decide +kernel
theorem mg_X9_requirePin : (m_gc n_X9_requirePin, m_gs n_X9_requirePin, m_al n_X9_requirePin) = (1, 6, false) := by decide +kernel
theorem ct_X9_requirePin {b : Nat} {x0 : Int32} {w : mW} {Q : mW → mO → Prop} (h : RT n_X9_requirePin 0 [.ref b, .int x0] [] w (1, 6, false) Q) : CT n_X9_requirePin [.ref b, .int x0] w Q := ct_mk ml_X9_requirePin mg_X9_requirePin rfl (Nat.le_of_ble_eq_true rfl) h
theorem ml_X9_requireTurns : m_l n_X9_requireTurns = 1 := by decide +kernel
theorem mr_X9_requireTurns : m_r n_X9_requireTurns = none := by decide +kernel
theorem mh_X9_requireTurns : m_hh n_X9_requireTurns = [] := by decide +kernel
theorem mg_X9_requireTurns : (m_gc n_X9_requireTurns, m_gs n_X9_requireTurns, m_al n_X9_requireTurns) = (1, 6, false) := by decide +kernel
theorem ct_X9_requireTurns {x0 : Int32} {w : mW} {Q : mW → mO → Prop} (h : RT n_X9_requireTurns 0 [.int x0] [] w (1, 6, false) Q) : CT n_X9_requireTurns [.int x0] w Q := ct_mk ml_X9_requireTurns mg_X9_requireTurns rfl (Nat.le_of_ble_eq_true rfl) h
theorem ml_X9_requireFactor : m_l n_X9_requireFactor = 1 := by decide +kernel
theorem mr_X9_requireFactor : m_r n_X9_requireFactor = none := by decide +kernel
theorem mh_X9_requireFactor : m_hh n_X9_requireFactor = [] := by decide +kernel
theorem mg_X9_requireFactor : (m_gc n_X9_requireFactor, m_gs n_X9_requireFactor, m_al n_X9_requireFactor) = (1, 6, false) := by decide +kernel
theorem ct_X9_requireFactor {x0 : Int32} {w : mW} {Q : mW → mO → Prop} (h : RT n_X9_requireFactor 0 [.int x0] [] w (1, 6, false) Q) : CT n_X9_requireFactor [.int x0] w Q := ct_mk ml_X9_requireFactor mg_X9_requireFactor rfl (Nat.le_of_ble_eq_true rfl) h
theorem ml_X9_directionOf : m_l n_X9_directionOf = 1 := by decide +kernel
theorem mr_X9_directionOf : m_r n_X9_directionOf = some .int := by decide +kernel
theorem mh_X9_directionOf : m_hh n_X9_directionOf = [] := by decide +kernel
theorem mg_X9_directionOf : (m_gc n_X9_directionOf, m_gs n_X9_directionOf, m_al n_X9_directionOf) = (0, 0, false) := by decide +kernel
theorem ct_X9_directionOf {x0 : Int32} {w : mW} {Q : mW → mO → Prop} (h : RT n_X9_directionOf 0 [.int x0] [] w (0, 0, false) Q) : CT n_X9_directionOf [.int x0] w Q := ct_mk ml_X9_directionOf mg_X9_directionOf rfl (Nat.le_of_ble_eq_true rfl) h
theorem ml_X9_showByte : m_l n_X9_showByte = 2 := by decide +kernel
theorem mr_X9_showByte : m_r n_X9_showByte = none := by decide +kernel
theorem mh_X9_showByte : m_hh n_X9_showByte = [] := by decide +kernel
theorem mg_X9_showByte : (m_gc n_X9_showByte, m_gs n_X9_showByte, m_al n_X9_showByte) = (0, 0, false) := by decide +kernel
theorem ct_X9_showByte {b : Nat} {x0 : Int32} {w : mW} {Q : mW → mO → Prop} (h : RT n_X9_showByte 0 [.ref b, .int x0] [] w (0, 0, false) Q) : CT n_X9_showByte [.ref b, .int x0] w Q := ct_mk ml_X9_showByte mg_X9_showByte rfl (Nat.le_of_ble_eq_true rfl) h
theorem ml_X10_init : m_l n_X10_init = 1 := by decide +kernel
theorem mr_X10_init : m_r n_X10_init = none := by decide +kernel
theorem mh_X10_init : m_hh n_X10_init = [] := by decide +kernel
theorem mg_X10_init : (m_gc n_X10_init, m_gs n_X10_init, m_al n_X10_init) = (10, 146, true) := by decide +kernel
theorem ct_X10_init {b : Nat} {w : mW} {Q : mW → mO → Prop} (h : RT n_X10_init 0 [.ref b] [] w (10, 146, true) Q) : CT n_X10_init [.ref b] w Q := ct_mk ml_X10_init mg_X10_init rfl (Nat.le_of_ble_eq_true rfl) h
theorem ml_X10_draw : m_l n_X10_draw = 2 := by decide +kernel
theorem mr_X10_draw : m_r n_X10_draw = some .int := by decide +kernel
theorem mh_X10_draw : m_hh n_X10_draw = [] := by decide +kernel
theorem mg_X10_draw : (m_gc n_X10_draw, m_gs n_X10_draw, m_al n_X10_draw) = (0, 0, false) := by decide +kernel
theorem ct_X10_draw {b : Nat} {x0 : Int32} {w : mW} {Q : mW → mO → Prop} (h : RT n_X10_draw 0 [.ref b, .int x0] [] w (0, 0, false) Q) : CT n_X10_draw [.ref b, .int x0] w Q := ct_mk ml_X10_draw mg_X10_draw rfl (Nat.le_of_ble_eq_true rfl) h
theorem ml_X10_copy : m_l n_X10_copy = 2 := by decide +kernel
theorem mr_X10_copy : m_r n_X10_copy = some (.object "CrankCalculatorLaw$Own") := by decide +kernel
theorem mh_X10_copy : m_hh n_X10_copy = [] := by decide +kernel
theorem mg_X10_copy : (m_gc n_X10_copy, m_gs n_X10_copy, m_al n_X10_copy) = (17, 249, false) := by decide +kernel
theorem ct_X10_copy {b : Nat} {w : mW} {Q : mW → mO → Prop} (h : RT n_X10_copy 0 [.ref b, .null] [] w (17, 249, false) Q) : CT n_X10_copy [.ref b] w Q := ct_mk ml_X10_copy mg_X10_copy rfl (Nat.le_of_ble_eq_true rfl) h
theorem ml_X10_number : m_l n_X10_number = 6 := by decide +kernel
theorem mr_X10_number : m_r n_X10_number = some .long := by decide +kernel
theorem mh_X10_number : m_hh n_X10_number = [] := by decide +kernel
theorem mg_X10_number : (m_gc n_X10_number, m_gs n_X10_number, m_al n_X10_number) = (0, 0, false) := by decide +kernel
theorem ct_X10_number {b : Nat} {r0 : Nat} {x1 : Int32} {w : mW} {Q : mW → mO → Prop} (h : RT n_X10_number 0 [.ref b, .ref r0, .int x1, .null, .null, .null] [] w (0, 0, false) Q) : CT n_X10_number [.ref b, .ref r0, .int x1] w Q := ct_mk ml_X10_number mg_X10_number rfl (Nat.le_of_ble_eq_true rfl) h
theorem ml_X10_pins : m_l n_X10_pins = 1 := by decide +kernel
theorem mr_X10_pins : m_r n_X10_pins = some .int := by decide +kernel
theorem mh_X10_pins : m_hh n_X10_pins = [] := by decide +kernel
theorem mg_X10_pins : (m_gc n_X10_pins, m_gs n_X10_pins, m_al n_X10_pins) = (0, 0, false) := by decide +kernel
theorem ct_X10_pins {b : Nat} {w : mW} {Q : mW → mO → Prop} (h : RT n_X10_pins 0 [.ref b] [] w (0, 0, false) Q) : CT n_X10_pins [.ref b] w Q := ct_mk ml_X10_pins mg_X10_pins rfl (Nat.le_of_ble_eq_true rfl) h
theorem ml_X10_move : m_l n_X10_move = 2 := by decide +kernel
theorem mr_X10_move : m_r n_X10_move = none := by decide +kernel
theorem mh_X10_move : m_hh n_X10_move = [] := by decide +kernel
theorem mg_X10_move : (m_gc n_X10_move, m_gs n_X10_move, m_al n_X10_move) = (0, 0, false) := by decide +kernel
theorem ct_X10_move {b : Nat} {x0 : Int32} {w : mW} {Q : mW → mO → Prop} (h : RT n_X10_move 0 [.ref b, .int x0] [] w (0, 0, false) Q) : CT n_X10_move [.ref b, .int x0] w Q := ct_mk ml_X10_move mg_X10_move rfl (Nat.le_of_ble_eq_true rfl) h
theorem ml_X10_jam : m_l n_X10_jam = 3 := by decide +kernel
theorem mr_X10_jam : m_r n_X10_jam = some .boolean := by decide +kernel
theorem mh_X10_jam : m_hh n_X10_jam = [] := by decide +kernel
theorem mg_X10_jam : (m_gc n_X10_jam, m_gs n_X10_jam, m_al n_X10_jam) = (0, 0, false) := by decide +kernel
theorem ct_X10_jam {b : Nat} {x0 : Int32} {x1 : Int32} {w : mW} {Q : mW → mO → Prop} (h : RT n_X10_jam 0 [.ref b, .int x0, .int x1] [] w (0, 0, false) Q) : CT n_X10_jam [.ref b, .int x0, .int x1] w Q := ct_mk ml_X10_jam mg_X10_jam rfl (Nat.le_of_ble_eq_true rfl) h
theorem ml_X10_goOn : m_l n_X10_goOn = 6 := by decide +kernel
theorem mr_X10_goOn : m_r n_X10_goOn = some .boolean := by decide +kernel
theorem mh_X10_goOn : m_hh n_X10_goOn = [] := by decide +kernel
theorem mg_X10_goOn : (m_gc n_X10_goOn, m_gs n_X10_goOn, m_al n_X10_goOn) = (1, 4, false) := by decide +kernel
theorem ct_X10_goOn {b : Nat} {x0 : Int32} {x1 : Int32} {w : mW} {Q : mW → mO → Prop} (h : RT n_X10_goOn 0 [.ref b, .int x0, .int x1, .null, .null, .null] [] w (1, 4, false) Q) : CT n_X10_goOn [.ref b, .int x0, .int x1] w Q := ct_mk ml_X10_goOn mg_X10_goOn rfl (Nat.le_of_ble_eq_true rfl) h
theorem ml_X10_turn : m_l n_X10_turn = 3 := by decide +kernel
theorem mr_X10_turn : m_r n_X10_turn = some .boolean := by decide +kernel
theorem mh_X10_turn : m_hh n_X10_turn = [] := by decide +kernel
theorem mg_X10_turn : (m_gc n_X10_turn, m_gs n_X10_turn, m_al n_X10_turn) = (5, 58, false) := by decide +kernel
theorem ct_X10_turn {b : Nat} {x0 : Int32} {x1 : Int32} {w : mW} {Q : mW → mO → Prop} (h : RT n_X10_turn 0 [.ref b, .int x0, .int x1] [] w (5, 58, false) Q) : CT n_X10_turn [.ref b, .int x0, .int x1] w Q := ct_mk ml_X10_turn mg_X10_turn rfl (Nat.le_of_ble_eq_true rfl) h
theorem ml_X10_turns : m_l n_X10_turns = 4 := by decide +kernel
theorem mr_X10_turns : m_r n_X10_turns = some .int := by decide +kernel
theorem mh_X10_turns : m_hh n_X10_turns = [] := by decide +kernel
theorem mg_X10_turns : (m_gc n_X10_turns, m_gs n_X10_turns, m_al n_X10_turns) = (60, 696, false) := by decide +kernel
theorem ct_X10_turns {b : Nat} {x0 : Int32} {x1 : Int32} {w : mW} {Q : mW → mO → Prop} (h : RT n_X10_turns 0 [.ref b, .int x0, .int x1, .null] [] w (60, 696, false) Q) : CT n_X10_turns [.ref b, .int x0, .int x1] w Q := ct_mk ml_X10_turns mg_X10_turns rfl (Nat.le_of_ble_eq_true rfl) h
theorem ml_X10_plan : m_l n_X10_plan = 7 := by decide +kernel
theorem mr_X10_plan : m_r n_X10_plan = some (.array .int) := by decide +kernel
theorem mh_X10_plan : m_hh n_X10_plan = [] := by decide +kernel
theorem mg_X10_plan : (m_gc n_X10_plan, m_gs n_X10_plan, m_al n_X10_plan) = (1, 7, false) := by decide +kernel
theorem ct_X10_plan {b : Nat} {x0 : Int32} {x1 : Int32} {w : mW} {Q : mW → mO → Prop} (h : RT n_X10_plan 0 [.ref b, .int x0, .int x1, .null, .null, .null, .null] [] w (1, 7, false) Q) : CT n_X10_plan [.ref b, .int x0, .int x1] w Q := ct_mk ml_X10_plan mg_X10_plan rfl (Nat.le_of_ble_eq_true rfl) h
theorem ml_X10_needed : m_l n_X10_needed = 5 := by decide +kernel
theorem mr_X10_needed : m_r n_X10_needed = some .int := by decide +kernel
theorem mh_X10_needed : m_hh n_X10_needed = [] := by decide +kernel
theorem mg_X10_needed : (m_gc n_X10_needed, m_gs n_X10_needed, m_al n_X10_needed) = (0, 0, false) := by decide +kernel
theorem ct_X10_needed {b : Nat} {x0 : Int32} {x1 : Int32} {w : mW} {Q : mW → mO → Prop} (h : RT n_X10_needed 0 [.ref b, .int x0, .int x1, .null, .null] [] w (0, 0, false) Q) : CT n_X10_needed [.ref b, .int x0, .int x1] w Q := ct_mk ml_X10_needed mg_X10_needed rfl (Nat.le_of_ble_eq_true rfl) h
theorem ml_X10_multiply : m_l n_X10_multiply = 7 := by decide +kernel
theorem mr_X10_multiply : m_r n_X10_multiply = some .int := by decide +kernel
theorem mh_X10_multiply : m_hh n_X10_multiply = [] := by decide +kernel
theorem mg_X10_multiply : (m_gc n_X10_multiply, m_gs n_X10_multiply, m_al n_X10_multiply) = (421, 4879, false) := by decide +kernel
theorem ct_X10_multiply {b : Nat} {x0 : Int32} {x1 : Int32} {w : mW} {Q : mW → mO → Prop} (h : RT n_X10_multiply 0 [.ref b, .int x0, .int x1, .null, .null, .null, .null] [] w (421, 4879, false) Q) : CT n_X10_multiply [.ref b, .int x0, .int x1] w Q := ct_mk ml_X10_multiply mg_X10_multiply rfl (Nat.le_of_ble_eq_true rfl) h
theorem ml_X10_divide : m_l n_X10_divide = 4 := by decide +kernel
theorem mr_X10_divide : m_r n_X10_divide = some .int := by decide +kernel
theorem mh_X10_divide : m_hh n_X10_divide = [] := by decide +kernel
theorem mg_X10_divide : (m_gc n_X10_divide, m_gs n_X10_divide, m_al n_X10_divide) = (825, 9570, false) := by decide +kernel
theorem ct_X10_divide {b : Nat} {w : mW} {Q : mW → mO → Prop} (h : RT n_X10_divide 0 [.ref b, .null, .null, .null] [] w (825, 9570, false) Q) : CT n_X10_divide [.ref b] w Q := ct_mk ml_X10_divide mg_X10_divide rfl (Nat.le_of_ble_eq_true rfl) h
theorem ml_X10_clear : m_l n_X10_clear = 5 := by decide +kernel
theorem mr_X10_clear : m_r n_X10_clear = some .int := by decide +kernel
theorem mh_X10_clear : m_hh n_X10_clear = [] := by decide +kernel
theorem mg_X10_clear : (m_gc n_X10_clear, m_gs n_X10_clear, m_al n_X10_clear) = (2, 24, false) := by decide +kernel
theorem ct_X10_clear {b : Nat} {x0 : Int32} {w : mW} {Q : mW → mO → Prop} (h : RT n_X10_clear 0 [.ref b, .int x0, .null, .null, .null] [] w (2, 24, false) Q) : CT n_X10_clear [.ref b, .int x0] w Q := ct_mk ml_X10_clear mg_X10_clear rfl (Nat.le_of_ble_eq_true rfl) h
theorem ml_X10_crankBack : m_l n_X10_crankBack = 4 := by decide +kernel
theorem mr_X10_crankBack : m_r n_X10_crankBack = some .int := by decide +kernel
theorem mh_X10_crankBack : m_hh n_X10_crankBack = [] := by decide +kernel
theorem mg_X10_crankBack : (m_gc n_X10_crankBack, m_gs n_X10_crankBack, m_al n_X10_crankBack) = (3, 48, false) := by decide +kernel
theorem ct_X10_crankBack {b : Nat} {w : mW} {Q : mW → mO → Prop} (h : RT n_X10_crankBack 0 [.ref b, .null, .null, .null] [] w (3, 48, false) Q) : CT n_X10_crankBack [.ref b] w Q := ct_mk ml_X10_crankBack mg_X10_crankBack rfl (Nat.le_of_ble_eq_true rfl) h
theorem ml_X10_wheel : m_l n_X10_wheel = 1 := by decide +kernel
theorem mr_X10_wheel : m_r n_X10_wheel = some .int := by decide +kernel
theorem mh_X10_wheel : m_hh n_X10_wheel = [] := by decide +kernel
theorem mg_X10_wheel : (m_gc n_X10_wheel, m_gs n_X10_wheel, m_al n_X10_wheel) = (0, 0, false) := by decide +kernel
theorem ct_X10_wheel {b : Nat} {w : mW} {Q : mW → mO → Prop} (h : RT n_X10_wheel 0 [.ref b] [] w (0, 0, false) Q) : CT n_X10_wheel [.ref b] w Q := ct_mk ml_X10_wheel mg_X10_wheel rfl (Nat.le_of_ble_eq_true rfl) h
theorem ml_X10_free : m_l n_X10_free = 1 := by decide +kernel
theorem mr_X10_free : m_r n_X10_free = some .int := by decide +kernel
theorem mh_X10_free : m_hh n_X10_free = [] := by decide +kernel
theorem mg_X10_free : (m_gc n_X10_free, m_gs n_X10_free, m_al n_X10_free) = (1, 4, false) := by decide +kernel
theorem ct_X10_free {b : Nat} {w : mW} {Q : mW → mO → Prop} (h : RT n_X10_free 0 [.ref b] [] w (1, 4, false) Q) : CT n_X10_free [.ref b] w Q := ct_mk ml_X10_free mg_X10_free rfl (Nat.le_of_ble_eq_true rfl) h
theorem ml_X10_faults : m_l n_X10_faults = 3 := by decide +kernel
theorem mr_X10_faults : m_r n_X10_faults = some .int := by decide +kernel
theorem mh_X10_faults : m_hh n_X10_faults = [] := by decide +kernel
theorem mg_X10_faults : (m_gc n_X10_faults, m_gs n_X10_faults, m_al n_X10_faults) = (0, 0, false) := by decide +kernel
theorem ct_X10_faults {b : Nat} {w : mW} {Q : mW → mO → Prop} (h : RT n_X10_faults 0 [.ref b, .null, .null] [] w (0, 0, false) Q) : CT n_X10_faults [.ref b] w Q := ct_mk ml_X10_faults mg_X10_faults rfl (Nat.le_of_ble_eq_true rfl) h
theorem ml_X10_text : m_l n_X10_text = 4 := by decide +kernel
theorem mr_X10_text : m_r n_X10_text = some (.object "java/lang/String") := by decide +kernel
theorem mh_X10_text : m_hh n_X10_text = [] := by decide +kernel
theorem mg_X10_text : (m_gc n_X10_text, m_gs n_X10_text, m_al n_X10_text) = (125, 122024, false) := by decide +kernel
theorem ct_X10_text {b : Nat} {x0 : Int32} {w : mW} {Q : mW → mO → Prop} (h : RT n_X10_text 0 [.ref b, .int x0, .null, .null] [] w (125, 122024, false) Q) : CT n_X10_text [.ref b, .int x0] w Q := ct_mk ml_X10_text mg_X10_text rfl (Nat.le_of_ble_eq_true rfl) h
theorem ml_J5_init_d00df : m_l n_J5_init_d00df = 2 := by decide +kernel
theorem mr_J5_init_d00df : m_r n_J5_init_d00df = none := by decide +kernel
theorem mh_J5_init_d00df : m_hh n_J5_init_d00df = [] := by decide +kernel
theorem mg_J5_init_d00df : (m_gc n_J5_init_d00df, m_gs n_J5_init_d00df, m_al n_J5_init_d00df) = (1, 16, false) := by decide +kernel
theorem ct_J5_init_d00df {b : Nat} {x0 : Int32} {w : mW} {Q : mW → mO → Prop} (h : RT n_J5_init_d00df 0 [.ref b, .int x0] [] w (1, 16, false) Q) : CT n_J5_init_d00df [.ref b, .int x0] w Q := ct_mk ml_J5_init_d00df mg_J5_init_d00df rfl (Nat.le_of_ble_eq_true rfl) h
theorem ml_J5_length_8abf5 : m_l n_J5_length_8abf5 = 1 := by decide +kernel
theorem mr_J5_length_8abf5 : m_r n_J5_length_8abf5 = some .int := by decide +kernel
theorem mh_J5_length_8abf5 : m_hh n_J5_length_8abf5 = [] := by decide +kernel
theorem mg_J5_length_8abf5 : (m_gc n_J5_length_8abf5, m_gs n_J5_length_8abf5, m_al n_J5_length_8abf5) = (0, 0, false) := by decide +kernel
theorem ct_J5_length_8abf5 {b : Nat} {w : mW} {Q : mW → mO → Prop} (h : RT n_J5_length_8abf5 0 [.ref b] [] w (0, 0, false) Q) : CT n_J5_length_8abf5 [.ref b] w Q := ct_mk ml_J5_length_8abf5 mg_J5_length_8abf5 rfl (Nat.le_of_ble_eq_true rfl) h
theorem ml_J5_ensureCapacityInternal_d00df : m_l n_J5_ensureCapacityInternal_d00df = 3 := by decide +kernel
theorem mr_J5_ensureCapacityInternal_d00df : m_r n_J5_ensureCapacityInternal_d00df = none := by decide +kernel
theorem mh_J5_ensureCapacityInternal_d00df : m_hh n_J5_ensureCapacityInternal_d00df = [] := by decide +kernel
theorem mg_J5_ensureCapacityInternal_d00df : (m_gc n_J5_ensureCapacityInternal_d00df, m_gs n_J5_ensureCapacityInternal_d00df, m_al n_J5_ensureCapacityInternal_d00df) = (1, 1000, false) := by decide +kernel
theorem ct_J5_ensureCapacityInternal_d00df {b : Nat} {x0 : Int32} {w : mW} {Q : mW → mO → Prop} (h : RT n_J5_ensureCapacityInternal_d00df 0 [.ref b, .int x0, .null] [] w (1, 1000, false) Q) : CT n_J5_ensureCapacityInternal_d00df [.ref b, .int x0] w Q := ct_mk ml_J5_ensureCapacityInternal_d00df mg_J5_ensureCapacityInternal_d00df rfl (Nat.le_of_ble_eq_true rfl) h
theorem ml_J5_newCapacity_0f7a4 : m_l n_J5_newCapacity_0f7a4 = 6 := by decide +kernel
theorem mr_J5_newCapacity_0f7a4 : m_r n_J5_newCapacity_0f7a4 = some .int := by decide +kernel
theorem mh_J5_newCapacity_0f7a4 : m_hh n_J5_newCapacity_0f7a4 = [] := by decide +kernel
theorem mg_J5_newCapacity_0f7a4 : (m_gc n_J5_newCapacity_0f7a4, m_gs n_J5_newCapacity_0f7a4, m_al n_J5_newCapacity_0f7a4) = (0, 0, false) := by decide +kernel
theorem ct_J5_newCapacity_0f7a4 {b : Nat} {x0 : Int32} {w : mW} {Q : mW → mO → Prop} (h : RT n_J5_newCapacity_0f7a4 0 [.ref b, .int x0, .null, .null, .null, .null] [] w (0, 0, false) Q) : CT n_J5_newCapacity_0f7a4 [.ref b, .int x0] w Q := ct_mk ml_J5_newCapacity_0f7a4 mg_J5_newCapacity_0f7a4 rfl (Nat.le_of_ble_eq_true rfl) h
theorem ml_J5_charAt_5068e : m_l n_J5_charAt_5068e = 5 := by decide +kernel
theorem mr_J5_charAt_5068e : m_r n_J5_charAt_5068e = some .char := by decide +kernel
theorem mh_J5_charAt_5068e : m_hh n_J5_charAt_5068e = [] := by decide +kernel
theorem mg_J5_charAt_5068e : (m_gc n_J5_charAt_5068e, m_gs n_J5_charAt_5068e, m_al n_J5_charAt_5068e) = (0, 0, false) := by decide +kernel
theorem ct_J5_charAt_5068e {b : Nat} {x0 : Int32} {w : mW} {Q : mW → mO → Prop} (h : RT n_J5_charAt_5068e 0 [.ref b, .int x0, .null, .null, .null] [] w (0, 0, false) Q) : CT n_J5_charAt_5068e [.ref b, .int x0] w Q := ct_mk ml_J5_charAt_5068e mg_J5_charAt_5068e rfl (Nat.le_of_ble_eq_true rfl) h
theorem ml_J5_append_cf1ce : m_l n_J5_append_cf1ce = 3 := by decide +kernel
theorem mr_J5_append_cf1ce : m_r n_J5_append_cf1ce = some (.object "java/lang/AbstractStringBuilder") := by decide +kernel
theorem mh_J5_append_cf1ce : m_hh n_J5_append_cf1ce = [] := by decide +kernel
theorem mg_J5_append_cf1ce : (m_gc n_J5_append_cf1ce, m_gs n_J5_append_cf1ce, m_al n_J5_append_cf1ce) = (1, 1000, false) := by decide +kernel
theorem ct_J5_append_cf1ce {b : Nat} {r0 : Nat} {w : mW} {Q : mW → mO → Prop} (h : RT n_J5_append_cf1ce 0 [.ref b, .ref r0, .null] [] w (1, 1000, false) Q) : CT n_J5_append_cf1ce [.ref b, .ref r0] w Q := ct_mk ml_J5_append_cf1ce mg_J5_append_cf1ce rfl (Nat.le_of_ble_eq_true rfl) h
theorem ml_J5_append_3fe6f : m_l n_J5_append_3fe6f = 2 := by decide +kernel
theorem mr_J5_append_3fe6f : m_r n_J5_append_3fe6f = some (.object "java/lang/AbstractStringBuilder") := by decide +kernel
theorem mh_J5_append_3fe6f : m_hh n_J5_append_3fe6f = [] := by decide +kernel
theorem mg_J5_append_3fe6f : (m_gc n_J5_append_3fe6f, m_gs n_J5_append_3fe6f, m_al n_J5_append_3fe6f) = (1, 1000, false) := by decide +kernel
theorem ct_J5_append_3fe6f {b : Nat} {x0 : Int32} {w : mW} {Q : mW → mO → Prop} (h : RT n_J5_append_3fe6f 0 [.ref b, .int x0] [] w (1, 1000, false) Q) : CT n_J5_append_3fe6f [.ref b, .int x0] w Q := ct_mk ml_J5_append_3fe6f mg_J5_append_3fe6f rfl (Nat.le_of_ble_eq_true rfl) h
theorem ml_J5_append_c97b9 : m_l n_J5_append_c97b9 = 4 := by decide +kernel
theorem mr_J5_append_c97b9 : m_r n_J5_append_c97b9 = some (.object "java/lang/AbstractStringBuilder") := by decide +kernel
theorem mh_J5_append_c97b9 : m_hh n_J5_append_c97b9 = [] := by decide +kernel
theorem mg_J5_append_c97b9 : (m_gc n_J5_append_c97b9, m_gs n_J5_append_c97b9, m_al n_J5_append_c97b9) = (1, 1000, false) := by decide +kernel
theorem ct_J5_append_c97b9 {b : Nat} {x0 : Int32} {w : mW} {Q : mW → mO → Prop} (h : RT n_J5_append_c97b9 0 [.ref b, .int x0, .null, .null] [] w (1, 1000, false) Q) : CT n_J5_append_c97b9 [.ref b, .int x0] w Q := ct_mk ml_J5_append_c97b9 mg_J5_append_c97b9 rfl (Nat.le_of_ble_eq_true rfl) h
theorem ml_J5_append_66267 : m_l n_J5_append_66267 = 5 := by decide +kernel
theorem mr_J5_append_66267 : m_r n_J5_append_66267 = some (.object "java/lang/AbstractStringBuilder") := by decide +kernel
theorem mh_J5_append_66267 : m_hh n_J5_append_66267 = [] := by decide +kernel
theorem mg_J5_append_66267 : (m_gc n_J5_append_66267, m_gs n_J5_append_66267, m_al n_J5_append_66267) = (1, 1000, false) := by decide +kernel
theorem ct_J5_append_66267 {b : Nat} {x0 : Int64} {w : mW} {Q : mW → mO → Prop} (h : RT n_J5_append_66267 0 [.ref b, .long x0, .null, .null, .null] [] w (1, 1000, false) Q) : CT n_J5_append_66267 [.ref b, .long x0] w Q := ct_mk ml_J5_append_66267 mg_J5_append_66267 rfl (Nat.le_of_ble_eq_true rfl) h
theorem ml_J5_getValue_6d5f1 : m_l n_J5_getValue_6d5f1 = 1 := by decide +kernel
theorem mr_J5_getValue_6d5f1 : m_r n_J5_getValue_6d5f1 = some (.array .byte) := by decide +kernel
theorem mh_J5_getValue_6d5f1 : m_hh n_J5_getValue_6d5f1 = [] := by decide +kernel
theorem mg_J5_getValue_6d5f1 : (m_gc n_J5_getValue_6d5f1, m_gs n_J5_getValue_6d5f1, m_al n_J5_getValue_6d5f1) = (0, 0, false) := by decide +kernel
theorem ct_J5_getValue_6d5f1 {b : Nat} {w : mW} {Q : mW → mO → Prop} (h : RT n_J5_getValue_6d5f1 0 [.ref b] [] w (0, 0, false) Q) : CT n_J5_getValue_6d5f1 [.ref b] w Q := ct_mk ml_J5_getValue_6d5f1 mg_J5_getValue_6d5f1 rfl (Nat.le_of_ble_eq_true rfl) h
theorem ml_J5_isLatin1_aae02 : m_l n_J5_isLatin1_aae02 = 1 := by decide +kernel
theorem mr_J5_isLatin1_aae02 : m_r n_J5_isLatin1_aae02 = some .boolean := by decide +kernel
theorem mh_J5_isLatin1_aae02 : m_hh n_J5_isLatin1_aae02 = [] := by decide +kernel
theorem mg_J5_isLatin1_aae02 : (m_gc n_J5_isLatin1_aae02, m_gs n_J5_isLatin1_aae02, m_al n_J5_isLatin1_aae02) = (0, 0, false) := by decide +kernel
theorem ct_J5_isLatin1_aae02 {b : Nat} {w : mW} {Q : mW → mO → Prop} (h : RT n_J5_isLatin1_aae02 0 [.ref b] [] w (0, 0, false) Q) : CT n_J5_isLatin1_aae02 [.ref b] w Q := ct_mk ml_J5_isLatin1_aae02 mg_J5_isLatin1_aae02 rfl (Nat.le_of_ble_eq_true rfl) h
theorem ml_J5_inflateIfNeededFor_a7421 : m_l n_J5_inflateIfNeededFor_a7421 = 2 := by decide +kernel
theorem mr_J5_inflateIfNeededFor_a7421 : m_r n_J5_inflateIfNeededFor_a7421 = none := by decide +kernel
theorem mh_J5_inflateIfNeededFor_a7421 : m_hh n_J5_inflateIfNeededFor_a7421 = [] := by decide +kernel
theorem mg_J5_inflateIfNeededFor_a7421 : (m_gc n_J5_inflateIfNeededFor_a7421, m_gs n_J5_inflateIfNeededFor_a7421, m_al n_J5_inflateIfNeededFor_a7421) = (0, 0, false) := by decide +kernel
theorem ct_J5_inflateIfNeededFor_a7421 {b : Nat} {r0 : Nat} {w : mW} {Q : mW → mO → Prop} (h : RT n_J5_inflateIfNeededFor_a7421 0 [.ref b, .ref r0] [] w (0, 0, false) Q) : CT n_J5_inflateIfNeededFor_a7421 [.ref b, .ref r0] w Q := ct_mk ml_J5_inflateIfNeededFor_a7421 mg_J5_inflateIfNeededFor_a7421 rfl (Nat.le_of_ble_eq_true rfl) h
theorem ml_J5_putStringAt_47b60 : m_l n_J5_putStringAt_47b60 = 3 := by decide +kernel
theorem mr_J5_putStringAt_47b60 : m_r n_J5_putStringAt_47b60 = none := by decide +kernel
theorem mh_J5_putStringAt_47b60 : m_hh n_J5_putStringAt_47b60 = [] := by decide +kernel
theorem mg_J5_putStringAt_47b60 : (m_gc n_J5_putStringAt_47b60, m_gs n_J5_putStringAt_47b60, m_al n_J5_putStringAt_47b60) = (0, 0, false) := by decide +kernel
theorem ct_J5_putStringAt_47b60 {b : Nat} {x0 : Int32} {r1 : Nat} {w : mW} {Q : mW → mO → Prop} (h : RT n_J5_putStringAt_47b60 0 [.ref b, .int x0, .ref r1] [] w (0, 0, false) Q) : CT n_J5_putStringAt_47b60 [.ref b, .int x0, .ref r1] w Q := ct_mk ml_J5_putStringAt_47b60 mg_J5_putStringAt_47b60 rfl (Nat.le_of_ble_eq_true rfl) h
theorem ml_J6_getChars_ba4f3 : m_l n_J6_getChars_ba4f3 = 7 := by decide +kernel
theorem mr_J6_getChars_ba4f3 : m_r n_J6_getChars_ba4f3 = some .int := by decide +kernel
theorem mh_J6_getChars_ba4f3 : m_hh n_J6_getChars_ba4f3 = [] := by decide +kernel
theorem mg_J6_getChars_ba4f3 : (m_gc n_J6_getChars_ba4f3, m_gs n_J6_getChars_ba4f3, m_al n_J6_getChars_ba4f3) = (0, 0, false) := by decide +kernel
theorem ct_J6_getChars_ba4f3 {x0 : Int32} {x1 : Int32} {r2 : Nat} {w : mW} {Q : mW → mO → Prop} (h : RT n_J6_getChars_ba4f3 0 [.int x0, .int x1, .ref r2, .null, .null, .null, .null] [] w (0, 0, false) Q) : CT n_J6_getChars_ba4f3 [.int x0, .int x1, .ref r2] w Q := ct_mk ml_J6_getChars_ba4f3 mg_J6_getChars_ba4f3 rfl (Nat.le_of_ble_eq_true rfl) h
theorem ml_J6_stringSize_0f7a4 : m_l n_J6_stringSize_0f7a4 = 4 := by decide +kernel
theorem mr_J6_stringSize_0f7a4 : m_r n_J6_stringSize_0f7a4 = some .int := by decide +kernel
theorem mh_J6_stringSize_0f7a4 : m_hh n_J6_stringSize_0f7a4 = [] := by decide +kernel
theorem mg_J6_stringSize_0f7a4 : (m_gc n_J6_stringSize_0f7a4, m_gs n_J6_stringSize_0f7a4, m_al n_J6_stringSize_0f7a4) = (0, 0, false) := by decide +kernel
theorem ct_J6_stringSize_0f7a4 {x0 : Int32} {w : mW} {Q : mW → mO → Prop} (h : RT n_J6_stringSize_0f7a4 0 [.int x0, .null, .null, .null] [] w (0, 0, false) Q) : CT n_J6_stringSize_0f7a4 [.int x0] w Q := ct_mk ml_J6_stringSize_0f7a4 mg_J6_stringSize_0f7a4 rfl (Nat.le_of_ble_eq_true rfl) h
theorem ml_J6_bitCount_0f7a4 : m_l n_J6_bitCount_0f7a4 = 1 := by decide +kernel
theorem mr_J6_bitCount_0f7a4 : m_r n_J6_bitCount_0f7a4 = some .int := by decide +kernel
theorem mh_J6_bitCount_0f7a4 : m_hh n_J6_bitCount_0f7a4 = [] := by decide +kernel
theorem mg_J6_bitCount_0f7a4 : (m_gc n_J6_bitCount_0f7a4, m_gs n_J6_bitCount_0f7a4, m_al n_J6_bitCount_0f7a4) = (0, 0, false) := by decide +kernel
theorem ct_J6_bitCount_0f7a4 {x0 : Int32} {w : mW} {Q : mW → mO → Prop} (h : RT n_J6_bitCount_0f7a4 0 [.int x0] [] w (0, 0, false) Q) : CT n_J6_bitCount_0f7a4 [.int x0] w Q := ct_mk ml_J6_bitCount_0f7a4 mg_J6_bitCount_0f7a4 rfl (Nat.le_of_ble_eq_true rfl) h
theorem ml_J13_getChars_11360 : m_l n_J13_getChars_11360 = 11 := by decide +kernel
theorem mr_J13_getChars_11360 : m_r n_J13_getChars_11360 = some .int := by decide +kernel
theorem mh_J13_getChars_11360 : m_hh n_J13_getChars_11360 = [] := by decide +kernel
theorem mg_J13_getChars_11360 : (m_gc n_J13_getChars_11360, m_gs n_J13_getChars_11360, m_al n_J13_getChars_11360) = (0, 0, false) := by decide +kernel
theorem ct_J13_getChars_11360 {x0 : Int64} {x1 : Int32} {r2 : Nat} {w : mW} {Q : mW → mO → Prop} (h : RT n_J13_getChars_11360 0 [.long x0, .null, .int x1, .ref r2, .null, .null, .null, .null, .null, .null, .null] [] w (0, 0, false) Q) : CT n_J13_getChars_11360 [.long x0, .int x1, .ref r2] w Q := ct_mk ml_J13_getChars_11360 mg_J13_getChars_11360 rfl (Nat.le_of_ble_eq_true rfl) h
theorem ml_J13_stringSize_95d88 : m_l n_J13_stringSize_95d88 = 6 := by decide +kernel
theorem mr_J13_stringSize_95d88 : m_r n_J13_stringSize_95d88 = some .int := by decide +kernel
theorem mh_J13_stringSize_95d88 : m_hh n_J13_stringSize_95d88 = [] := by decide +kernel
theorem mg_J13_stringSize_95d88 : (m_gc n_J13_stringSize_95d88, m_gs n_J13_stringSize_95d88, m_al n_J13_stringSize_95d88) = (0, 0, false) := by decide +kernel
theorem ct_J13_stringSize_95d88 {x0 : Int64} {w : mW} {Q : mW → mO → Prop} (h : RT n_J13_stringSize_95d88 0 [.long x0, .null, .null, .null, .null, .null] [] w (0, 0, false) Q) : CT n_J13_stringSize_95d88 [.long x0] w Q := ct_mk ml_J13_stringSize_95d88 mg_J13_stringSize_95d88 rfl (Nat.le_of_ble_eq_true rfl) h
theorem ml_J9_floorMod_7cf53 : m_l n_J9_floorMod_7cf53 = 3 := by decide +kernel
theorem mr_J9_floorMod_7cf53 : m_r n_J9_floorMod_7cf53 = some .int := by decide +kernel
theorem mh_J9_floorMod_7cf53 : m_hh n_J9_floorMod_7cf53 = [] := by decide +kernel
theorem mg_J9_floorMod_7cf53 : (m_gc n_J9_floorMod_7cf53, m_gs n_J9_floorMod_7cf53, m_al n_J9_floorMod_7cf53) = (0, 0, false) := by decide +kernel
theorem ct_J9_floorMod_7cf53 {x0 : Int32} {x1 : Int32} {w : mW} {Q : mW → mO → Prop} (h : RT n_J9_floorMod_7cf53 0 [.int x0, .int x1, .null] [] w (0, 0, false) Q) : CT n_J9_floorMod_7cf53 [.int x0, .int x1] w Q := ct_mk ml_J9_floorMod_7cf53 mg_J9_floorMod_7cf53 rfl (Nat.le_of_ble_eq_true rfl) h
theorem ml_J9_floorMod_f86c9 : m_l n_J9_floorMod_f86c9 = 6 := by decide +kernel
theorem mr_J9_floorMod_f86c9 : m_r n_J9_floorMod_f86c9 = some .long := by decide +kernel
theorem mh_J9_floorMod_f86c9 : m_hh n_J9_floorMod_f86c9 = [] := by decide +kernel
theorem mg_J9_floorMod_f86c9 : (m_gc n_J9_floorMod_f86c9, m_gs n_J9_floorMod_f86c9, m_al n_J9_floorMod_f86c9) = (0, 0, false) := by decide +kernel
theorem ct_J9_floorMod_f86c9 {x0 : Int64} {x1 : Int64} {w : mW} {Q : mW → mO → Prop} (h : RT n_J9_floorMod_f86c9 0 [.long x0, .null, .long x1, .null, .null, .null] [] w (0, 0, false) Q) : CT n_J9_floorMod_f86c9 [.long x0, .long x1] w Q := ct_mk ml_J9_floorMod_f86c9 mg_J9_floorMod_f86c9 rfl (Nat.le_of_ble_eq_true rfl) h
theorem ml_J9_abs_0f7a4 : m_l n_J9_abs_0f7a4 = 1 := by decide +kernel
theorem mr_J9_abs_0f7a4 : m_r n_J9_abs_0f7a4 = some .int := by decide +kernel
theorem mh_J9_abs_0f7a4 : m_hh n_J9_abs_0f7a4 = [] := by decide +kernel
theorem mg_J9_abs_0f7a4 : (m_gc n_J9_abs_0f7a4, m_gs n_J9_abs_0f7a4, m_al n_J9_abs_0f7a4) = (0, 0, false) := by decide +kernel
theorem ct_J9_abs_0f7a4 {x0 : Int32} {w : mW} {Q : mW → mO → Prop} (h : RT n_J9_abs_0f7a4 0 [.int x0] [] w (0, 0, false) Q) : CT n_J9_abs_0f7a4 [.int x0] w Q := ct_mk ml_J9_abs_0f7a4 mg_J9_abs_0f7a4 rfl (Nat.le_of_ble_eq_true rfl) h
theorem ml_J9_max_7cf53 : m_l n_J9_max_7cf53 = 2 := by decide +kernel
theorem mr_J9_max_7cf53 : m_r n_J9_max_7cf53 = some .int := by decide +kernel
theorem mh_J9_max_7cf53 : m_hh n_J9_max_7cf53 = [] := by decide +kernel
theorem mg_J9_max_7cf53 : (m_gc n_J9_max_7cf53, m_gs n_J9_max_7cf53, m_al n_J9_max_7cf53) = (0, 0, false) := by decide +kernel
theorem ct_J9_max_7cf53 {x0 : Int32} {x1 : Int32} {w : mW} {Q : mW → mO → Prop} (h : RT n_J9_max_7cf53 0 [.int x0, .int x1] [] w (0, 0, false) Q) : CT n_J9_max_7cf53 [.int x0, .int x1] w Q := ct_mk ml_J9_max_7cf53 mg_J9_max_7cf53 rfl (Nat.le_of_ble_eq_true rfl) h
theorem ml_J9_min_7cf53 : m_l n_J9_min_7cf53 = 2 := by decide +kernel
theorem mr_J9_min_7cf53 : m_r n_J9_min_7cf53 = some .int := by decide +kernel
theorem mh_J9_min_7cf53 : m_hh n_J9_min_7cf53 = [] := by decide +kernel
theorem mg_J9_min_7cf53 : (m_gc n_J9_min_7cf53, m_gs n_J9_min_7cf53, m_al n_J9_min_7cf53) = (0, 0, false) := by decide +kernel
theorem ct_J9_min_7cf53 {x0 : Int32} {x1 : Int32} {w : mW} {Q : mW → mO → Prop} (h : RT n_J9_min_7cf53 0 [.int x0, .int x1] [] w (0, 0, false) Q) : CT n_J9_min_7cf53 [.int x0, .int x1] w Q := ct_mk ml_J9_min_7cf53 mg_J9_min_7cf53 rfl (Nat.le_of_ble_eq_true rfl) h
theorem ml_J0_init_81219 : m_l n_J0_init_81219 = 2 := by decide +kernel
theorem mr_J0_init_81219 : m_r n_J0_init_81219 = none := by decide +kernel
theorem mh_J0_init_81219 : m_hh n_J0_init_81219 = [] := by decide +kernel
theorem mg_J0_init_81219 : (m_gc n_J0_init_81219, m_gs n_J0_init_81219, m_al n_J0_init_81219) = (2, 2000, false) := by decide +kernel
theorem ct_J0_init_81219 {b : Nat} {r0 : Nat} {w : mW} {Q : mW → mO → Prop} (h : RT n_J0_init_81219 0 [.ref b, .ref r0] [] w (2, 2000, false) Q) : CT n_J0_init_81219 [.ref b, .ref r0] w Q := ct_mk ml_J0_init_81219 mg_J0_init_81219 rfl (Nat.le_of_ble_eq_true rfl) h
theorem ml_J0_length_8abf5 : m_l n_J0_length_8abf5 = 1 := by decide +kernel
theorem mr_J0_length_8abf5 : m_r n_J0_length_8abf5 = some .int := by decide +kernel
theorem mh_J0_length_8abf5 : m_hh n_J0_length_8abf5 = [] := by decide +kernel
theorem mg_J0_length_8abf5 : (m_gc n_J0_length_8abf5, m_gs n_J0_length_8abf5, m_al n_J0_length_8abf5) = (0, 0, false) := by decide +kernel
theorem ct_J0_length_8abf5 {b : Nat} {w : mW} {Q : mW → mO → Prop} (h : RT n_J0_length_8abf5 0 [.ref b] [] w (0, 0, false) Q) : CT n_J0_length_8abf5 [.ref b] w Q := ct_mk ml_J0_length_8abf5 mg_J0_length_8abf5 rfl (Nat.le_of_ble_eq_true rfl) h
theorem ml_J0_charAt_5068e : m_l n_J0_charAt_5068e = 2 := by decide +kernel
theorem mr_J0_charAt_5068e : m_r n_J0_charAt_5068e = some .char := by decide +kernel
theorem mh_J0_charAt_5068e : m_hh n_J0_charAt_5068e = [] := by decide +kernel
theorem mg_J0_charAt_5068e : (m_gc n_J0_charAt_5068e, m_gs n_J0_charAt_5068e, m_al n_J0_charAt_5068e) = (0, 0, false) := by decide +kernel
theorem ct_J0_charAt_5068e {b : Nat} {x0 : Int32} {w : mW} {Q : mW → mO → Prop} (h : RT n_J0_charAt_5068e 0 [.ref b, .int x0] [] w (0, 0, false) Q) : CT n_J0_charAt_5068e [.ref b, .int x0] w Q := ct_mk ml_J0_charAt_5068e mg_J0_charAt_5068e rfl (Nat.le_of_ble_eq_true rfl) h
theorem ml_J0_getBytes_840e7 : m_l n_J0_getBytes_840e7 = 4 := by decide +kernel
theorem mr_J0_getBytes_840e7 : m_r n_J0_getBytes_840e7 = none := by decide +kernel
theorem mh_J0_getBytes_840e7 : m_hh n_J0_getBytes_840e7 = [] := by decide +kernel
theorem mg_J0_getBytes_840e7 : (m_gc n_J0_getBytes_840e7, m_gs n_J0_getBytes_840e7, m_al n_J0_getBytes_840e7) = (0, 0, false) := by decide +kernel
theorem ct_J0_getBytes_840e7 {b : Nat} {r0 : Nat} {x1 : Int32} {x2 : Int32} {w : mW} {Q : mW → mO → Prop} (h : RT n_J0_getBytes_840e7 0 [.ref b, .ref r0, .int x1, .int x2] [] w (0, 0, false) Q) : CT n_J0_getBytes_840e7 [.ref b, .ref r0, .int x1, .int x2] w Q := ct_mk ml_J0_getBytes_840e7 mg_J0_getBytes_840e7 rfl (Nat.le_of_ble_eq_true rfl) h
theorem ml_J0_init_db425 : m_l n_J0_init_db425 = 5 := by decide +kernel
theorem mr_J0_init_db425 : m_r n_J0_init_db425 = none := by decide +kernel
theorem mh_J0_init_db425 : m_hh n_J0_init_db425 = [] := by decide +kernel
theorem mg_J0_init_db425 : (m_gc n_J0_init_db425, m_gs n_J0_init_db425, m_al n_J0_init_db425) = (2, 2000, false) := by decide +kernel
theorem ct_J0_init_db425 {b : Nat} {r0 : Nat} {w : mW} {Q : mW → mO → Prop} (h : RT n_J0_init_db425 0 [.ref b, .ref r0, .null, .null, .null] [] w (2, 2000, false) Q) : CT n_J0_init_db425 [.ref b, .ref r0, .null] w Q := ct_mk ml_J0_init_db425 mg_J0_init_db425 rfl (Nat.le_of_ble_eq_true rfl) h
theorem ml_J0_coder_7d493 : m_l n_J0_coder_7d493 = 1 := by decide +kernel
theorem mr_J0_coder_7d493 : m_r n_J0_coder_7d493 = some .byte := by decide +kernel
theorem mh_J0_coder_7d493 : m_hh n_J0_coder_7d493 = [] := by decide +kernel
theorem mg_J0_coder_7d493 : (m_gc n_J0_coder_7d493, m_gs n_J0_coder_7d493, m_al n_J0_coder_7d493) = (0, 0, false) := by decide +kernel
theorem ct_J0_coder_7d493 {b : Nat} {w : mW} {Q : mW → mO → Prop} (h : RT n_J0_coder_7d493 0 [.ref b] [] w (0, 0, false) Q) : CT n_J0_coder_7d493 [.ref b] w Q := ct_mk ml_J0_coder_7d493 mg_J0_coder_7d493 rfl (Nat.le_of_ble_eq_true rfl) h
theorem ml_J0_isLatin1_aae02 : m_l n_J0_isLatin1_aae02 = 1 := by decide +kernel
theorem mr_J0_isLatin1_aae02 : m_r n_J0_isLatin1_aae02 = some .boolean := by decide +kernel
theorem mh_J0_isLatin1_aae02 : m_hh n_J0_isLatin1_aae02 = [] := by decide +kernel
theorem mg_J0_isLatin1_aae02 : (m_gc n_J0_isLatin1_aae02, m_gs n_J0_isLatin1_aae02, m_al n_J0_isLatin1_aae02) = (0, 0, false) := by decide +kernel
theorem ct_J0_isLatin1_aae02 {b : Nat} {w : mW} {Q : mW → mO → Prop} (h : RT n_J0_isLatin1_aae02 0 [.ref b] [] w (0, 0, false) Q) : CT n_J0_isLatin1_aae02 [.ref b] w Q := ct_mk ml_J0_isLatin1_aae02 mg_J0_isLatin1_aae02 rfl (Nat.le_of_ble_eq_true rfl) h
theorem ml_J0_checkIndex_df160 : m_l n_J0_checkIndex_df160 = 2 := by decide +kernel
theorem mr_J0_checkIndex_df160 : m_r n_J0_checkIndex_df160 = none := by decide +kernel
theorem mh_J0_checkIndex_df160 : m_hh n_J0_checkIndex_df160 = [] := by decide +kernel
theorem mg_J0_checkIndex_df160 : (m_gc n_J0_checkIndex_df160, m_gs n_J0_checkIndex_df160, m_al n_J0_checkIndex_df160) = (0, 0, false) := by decide +kernel
theorem ct_J0_checkIndex_df160 {x0 : Int32} {x1 : Int32} {w : mW} {Q : mW → mO → Prop} (h : RT n_J0_checkIndex_df160 0 [.int x0, .int x1] [] w (0, 0, false) Q) : CT n_J0_checkIndex_df160 [.int x0, .int x1] w Q := ct_mk ml_J0_checkIndex_df160 mg_J0_checkIndex_df160 rfl (Nat.le_of_ble_eq_true rfl) h
theorem ml_J4_init_da8c8 : m_l n_J4_init_da8c8 = 1 := by decide +kernel
theorem mr_J4_init_da8c8 : m_r n_J4_init_da8c8 = none := by decide +kernel
theorem mh_J4_init_da8c8 : m_hh n_J4_init_da8c8 = [] := by decide +kernel
theorem mg_J4_init_da8c8 : (m_gc n_J4_init_da8c8, m_gs n_J4_init_da8c8, m_al n_J4_init_da8c8) = (1, 16, false) := by decide +kernel
theorem ct_J4_init_da8c8 {b : Nat} {w : mW} {Q : mW → mO → Prop} (h : RT n_J4_init_da8c8 0 [.ref b] [] w (1, 16, false) Q) : CT n_J4_init_da8c8 [.ref b] w Q := ct_mk ml_J4_init_da8c8 mg_J4_init_da8c8 rfl (Nat.le_of_ble_eq_true rfl) h
theorem ml_J4_append_15ec4 : m_l n_J4_append_15ec4 = 2 := by decide +kernel
theorem mr_J4_append_15ec4 : m_r n_J4_append_15ec4 = some (.object "java/lang/StringBuilder") := by decide +kernel
theorem mh_J4_append_15ec4 : m_hh n_J4_append_15ec4 = [] := by decide +kernel
theorem mg_J4_append_15ec4 : (m_gc n_J4_append_15ec4, m_gs n_J4_append_15ec4, m_al n_J4_append_15ec4) = (1, 1000, false) := by decide +kernel
theorem ct_J4_append_15ec4 {b : Nat} {r0 : Nat} {w : mW} {Q : mW → mO → Prop} (h : RT n_J4_append_15ec4 0 [.ref b, .ref r0] [] w (1, 1000, false) Q) : CT n_J4_append_15ec4 [.ref b, .ref r0] w Q := ct_mk ml_J4_append_15ec4 mg_J4_append_15ec4 rfl (Nat.le_of_ble_eq_true rfl) h
theorem ml_J4_append_cf468 : m_l n_J4_append_cf468 = 2 := by decide +kernel
theorem mr_J4_append_cf468 : m_r n_J4_append_cf468 = some (.object "java/lang/StringBuilder") := by decide +kernel
theorem mh_J4_append_cf468 : m_hh n_J4_append_cf468 = [] := by decide +kernel
theorem mg_J4_append_cf468 : (m_gc n_J4_append_cf468, m_gs n_J4_append_cf468, m_al n_J4_append_cf468) = (1, 1000, false) := by decide +kernel
theorem ct_J4_append_cf468 {b : Nat} {x0 : Int32} {w : mW} {Q : mW → mO → Prop} (h : RT n_J4_append_cf468 0 [.ref b, .int x0] [] w (1, 1000, false) Q) : CT n_J4_append_cf468 [.ref b, .int x0] w Q := ct_mk ml_J4_append_cf468 mg_J4_append_cf468 rfl (Nat.le_of_ble_eq_true rfl) h
theorem ml_J4_append_bf812 : m_l n_J4_append_bf812 = 2 := by decide +kernel
theorem mr_J4_append_bf812 : m_r n_J4_append_bf812 = some (.object "java/lang/StringBuilder") := by decide +kernel
theorem mh_J4_append_bf812 : m_hh n_J4_append_bf812 = [] := by decide +kernel
theorem mg_J4_append_bf812 : (m_gc n_J4_append_bf812, m_gs n_J4_append_bf812, m_al n_J4_append_bf812) = (1, 1000, false) := by decide +kernel
theorem ct_J4_append_bf812 {b : Nat} {x0 : Int32} {w : mW} {Q : mW → mO → Prop} (h : RT n_J4_append_bf812 0 [.ref b, .int x0] [] w (1, 1000, false) Q) : CT n_J4_append_bf812 [.ref b, .int x0] w Q := ct_mk ml_J4_append_bf812 mg_J4_append_bf812 rfl (Nat.le_of_ble_eq_true rfl) h
theorem ml_J4_append_f7089 : m_l n_J4_append_f7089 = 3 := by decide +kernel
theorem mr_J4_append_f7089 : m_r n_J4_append_f7089 = some (.object "java/lang/StringBuilder") := by decide +kernel
theorem mh_J4_append_f7089 : m_hh n_J4_append_f7089 = [] := by decide +kernel
theorem mg_J4_append_f7089 : (m_gc n_J4_append_f7089, m_gs n_J4_append_f7089, m_al n_J4_append_f7089) = (1, 1000, false) := by decide +kernel
theorem ct_J4_append_f7089 {b : Nat} {x0 : Int64} {w : mW} {Q : mW → mO → Prop} (h : RT n_J4_append_f7089 0 [.ref b, .long x0, .null] [] w (1, 1000, false) Q) : CT n_J4_append_f7089 [.ref b, .long x0] w Q := ct_mk ml_J4_append_f7089 mg_J4_append_f7089 rfl (Nat.le_of_ble_eq_true rfl) h
theorem ml_J4_toString_0e30d : m_l n_J4_toString_0e30d = 1 := by decide +kernel
theorem mr_J4_toString_0e30d : m_r n_J4_toString_0e30d = some (.object "java/lang/String") := by decide +kernel
theorem mh_J4_toString_0e30d : m_hh n_J4_toString_0e30d = [] := by decide +kernel
theorem mg_J4_toString_0e30d : (m_gc n_J4_toString_0e30d, m_gs n_J4_toString_0e30d, m_al n_J4_toString_0e30d) = (3, 2004, false) := by decide +kernel
theorem ct_J4_toString_0e30d {b : Nat} {w : mW} {Q : mW → mO → Prop} (h : RT n_J4_toString_0e30d 0 [.ref b] [] w (3, 2004, false) Q) : CT n_J4_toString_0e30d [.ref b] w Q := ct_mk ml_J4_toString_0e30d mg_J4_toString_0e30d rfl (Nat.le_of_ble_eq_true rfl) h
theorem ml_J4_charAt_5068e : m_l n_J4_charAt_5068e = 2 := by decide +kernel
theorem mr_J4_charAt_5068e : m_r n_J4_charAt_5068e = some .char := by decide +kernel
theorem mh_J4_charAt_5068e : m_hh n_J4_charAt_5068e = [] := by decide +kernel
theorem mg_J4_charAt_5068e : (m_gc n_J4_charAt_5068e, m_gs n_J4_charAt_5068e, m_al n_J4_charAt_5068e) = (0, 0, false) := by decide +kernel
theorem ct_J4_charAt_5068e {b : Nat} {x0 : Int32} {w : mW} {Q : mW → mO → Prop} (h : RT n_J4_charAt_5068e 0 [.ref b, .int x0] [] w (0, 0, false) Q) : CT n_J4_charAt_5068e [.ref b, .int x0] w Q := ct_mk ml_J4_charAt_5068e mg_J4_charAt_5068e rfl (Nat.le_of_ble_eq_true rfl) h
theorem ml_J4_length_8abf5 : m_l n_J4_length_8abf5 = 1 := by decide +kernel
theorem mr_J4_length_8abf5 : m_r n_J4_length_8abf5 = some .int := by decide +kernel
theorem mh_J4_length_8abf5 : m_hh n_J4_length_8abf5 = [] := by decide +kernel
theorem mg_J4_length_8abf5 : (m_gc n_J4_length_8abf5, m_gs n_J4_length_8abf5, m_al n_J4_length_8abf5) = (0, 0, false) := by decide +kernel
theorem ct_J4_length_8abf5 {b : Nat} {w : mW} {Q : mW → mO → Prop} (h : RT n_J4_length_8abf5 0 [.ref b] [] w (0, 0, false) Q) : CT n_J4_length_8abf5 [.ref b] w Q := ct_mk ml_J4_length_8abf5 mg_J4_length_8abf5 rfl (Nat.le_of_ble_eq_true rfl) h
theorem ml_J1_charAt_3b067 : m_l n_J1_charAt_3b067 = 2 := by decide +kernel
theorem mr_J1_charAt_3b067 : m_r n_J1_charAt_3b067 = some .char := by decide +kernel
theorem mh_J1_charAt_3b067 : m_hh n_J1_charAt_3b067 = [] := by decide +kernel
theorem mg_J1_charAt_3b067 : (m_gc n_J1_charAt_3b067, m_gs n_J1_charAt_3b067, m_al n_J1_charAt_3b067) = (0, 0, false) := by decide +kernel
theorem ct_J1_charAt_3b067 {r0 : Nat} {x1 : Int32} {w : mW} {Q : mW → mO → Prop} (h : RT n_J1_charAt_3b067 0 [.ref r0, .int x1] [] w (0, 0, false) Q) : CT n_J1_charAt_3b067 [.ref r0, .int x1] w Q := ct_mk ml_J1_charAt_3b067 mg_J1_charAt_3b067 rfl (Nat.le_of_ble_eq_true rfl) h
theorem ml_J1_canEncode_fc78d : m_l n_J1_canEncode_fc78d = 1 := by decide +kernel
theorem mr_J1_canEncode_fc78d : m_r n_J1_canEncode_fc78d = some .boolean := by decide +kernel
theorem mh_J1_canEncode_fc78d : m_hh n_J1_canEncode_fc78d = [] := by decide +kernel
theorem mg_J1_canEncode_fc78d : (m_gc n_J1_canEncode_fc78d, m_gs n_J1_canEncode_fc78d, m_al n_J1_canEncode_fc78d) = (0, 0, false) := by decide +kernel
theorem ct_J1_canEncode_fc78d {x0 : Int32} {w : mW} {Q : mW → mO → Prop} (h : RT n_J1_canEncode_fc78d 0 [.int x0] [] w (0, 0, false) Q) : CT n_J1_canEncode_fc78d [.int x0] w Q := ct_mk ml_J1_canEncode_fc78d mg_J1_canEncode_fc78d rfl (Nat.le_of_ble_eq_true rfl) h
theorem ml_J7_fill_53178 : m_l n_J7_fill_53178 = 4 := by decide +kernel
theorem mr_J7_fill_53178 : m_r n_J7_fill_53178 = none := by decide +kernel
theorem mh_J7_fill_53178 : m_hh n_J7_fill_53178 = [] := by decide +kernel
theorem mg_J7_fill_53178 : (m_gc n_J7_fill_53178, m_gs n_J7_fill_53178, m_al n_J7_fill_53178) = (0, 0, false) := by decide +kernel
theorem ct_J7_fill_53178 {r0 : Nat} {x1 : Int32} {w : mW} {Q : mW → mO → Prop} (h : RT n_J7_fill_53178 0 [.ref r0, .int x1, .null, .null] [] w (0, 0, false) Q) : CT n_J7_fill_53178 [.ref r0, .int x1] w Q := ct_mk ml_J7_fill_53178 mg_J7_fill_53178 rfl (Nat.le_of_ble_eq_true rfl) h
theorem ml_J7_copyOf_9075b : m_l n_J7_copyOf_9075b = 3 := by decide +kernel
theorem mr_J7_copyOf_9075b : m_r n_J7_copyOf_9075b = some (.array .byte) := by decide +kernel
theorem mh_J7_copyOf_9075b : m_hh n_J7_copyOf_9075b = [] := by decide +kernel
theorem mg_J7_copyOf_9075b : (m_gc n_J7_copyOf_9075b, m_gs n_J7_copyOf_9075b, m_al n_J7_copyOf_9075b) = (1, 1000, false) := by decide +kernel
theorem ct_J7_copyOf_9075b {r0 : Nat} {x1 : Int32} {w : mW} {Q : mW → mO → Prop} (h : RT n_J7_copyOf_9075b 0 [.ref r0, .int x1, .null] [] w (1, 1000, false) Q) : CT n_J7_copyOf_9075b [.ref r0, .int x1] w Q := ct_mk ml_J7_copyOf_9075b mg_J7_copyOf_9075b rfl (Nat.le_of_ble_eq_true rfl) h
theorem ml_J7_checkLength_df160 : m_l n_J7_checkLength_df160 = 2 := by decide +kernel
theorem mr_J7_checkLength_df160 : m_r n_J7_checkLength_df160 = none := by decide +kernel
theorem mh_J7_checkLength_df160 : m_hh n_J7_checkLength_df160 = [] := by decide +kernel
theorem mg_J7_checkLength_df160 : (m_gc n_J7_checkLength_df160, m_gs n_J7_checkLength_df160, m_al n_J7_checkLength_df160) = (0, 0, false) := by decide +kernel
theorem ct_J7_checkLength_df160 {x0 : Int32} {x1 : Int32} {w : mW} {Q : mW → mO → Prop} (h : RT n_J7_checkLength_df160 0 [.int x0, .int x1] [] w (0, 0, false) Q) : CT n_J7_checkLength_df160 [.int x0, .int x1] w Q := ct_mk ml_J7_checkLength_df160 mg_J7_checkLength_df160 rfl (Nat.le_of_ble_eq_true rfl) h
theorem ml_J7_copyOfRange_39247 : m_l n_J7_copyOfRange_39247 = 3 := by decide +kernel
theorem mr_J7_copyOfRange_39247 : m_r n_J7_copyOfRange_39247 = some (.array .byte) := by decide +kernel
theorem mh_J7_copyOfRange_39247 : m_hh n_J7_copyOfRange_39247 = [] := by decide +kernel
theorem mg_J7_copyOfRange_39247 : (m_gc n_J7_copyOfRange_39247, m_gs n_J7_copyOfRange_39247, m_al n_J7_copyOfRange_39247) = (1, 1000, false) := by decide +kernel
theorem ct_J7_copyOfRange_39247 {r0 : Nat} {x1 : Int32} {x2 : Int32} {w : mW} {Q : mW → mO → Prop} (h : RT n_J7_copyOfRange_39247 0 [.ref r0, .int x1, .int x2] [] w (1, 1000, false) Q) : CT n_J7_copyOfRange_39247 [.ref r0, .int x1, .int x2] w Q := ct_mk ml_J7_copyOfRange_39247 mg_J7_copyOfRange_39247 rfl (Nat.le_of_ble_eq_true rfl) h
theorem ml_J7_copyOfRangeByte_39247 : m_l n_J7_copyOfRangeByte_39247 = 5 := by decide +kernel
theorem mr_J7_copyOfRangeByte_39247 : m_r n_J7_copyOfRangeByte_39247 = some (.array .byte) := by decide +kernel
theorem mh_J7_copyOfRangeByte_39247 : m_hh n_J7_copyOfRangeByte_39247 = [] := by decide +kernel
theorem mg_J7_copyOfRangeByte_39247 : (m_gc n_J7_copyOfRangeByte_39247, m_gs n_J7_copyOfRangeByte_39247, m_al n_J7_copyOfRangeByte_39247) = (1, 1000, false) := by decide +kernel
theorem ct_J7_copyOfRangeByte_39247 {r0 : Nat} {x1 : Int32} {x2 : Int32} {w : mW} {Q : mW → mO → Prop} (h : RT n_J7_copyOfRangeByte_39247 0 [.ref r0, .int x1, .int x2, .null, .null] [] w (1, 1000, false) Q) : CT n_J7_copyOfRangeByte_39247 [.ref r0, .int x1, .int x2] w Q := ct_mk ml_J7_copyOfRangeByte_39247 mg_J7_copyOfRangeByte_39247 rfl (Nat.le_of_ble_eq_true rfl) h
theorem ml_J8_newLength_cabcc : m_l n_J8_newLength_cabcc = 4 := by decide +kernel
theorem mr_J8_newLength_cabcc : m_r n_J8_newLength_cabcc = some .int := by decide +kernel
theorem mh_J8_newLength_cabcc : m_hh n_J8_newLength_cabcc = [] := by decide +kernel
theorem mg_J8_newLength_cabcc : (m_gc n_J8_newLength_cabcc, m_gs n_J8_newLength_cabcc, m_al n_J8_newLength_cabcc) = (0, 0, false) := by decide +kernel
theorem ct_J8_newLength_cabcc {x0 : Int32} {x1 : Int32} {x2 : Int32} {w : mW} {Q : mW → mO → Prop} (h : RT n_J8_newLength_cabcc 0 [.int x0, .int x1, .int x2, .null] [] w (0, 0, false) Q) : CT n_J8_newLength_cabcc [.int x0, .int x1, .int x2] w Q := ct_mk ml_J8_newLength_cabcc mg_J8_newLength_cabcc rfl (Nat.le_of_ble_eq_true rfl) h
theorem ml_J3_checkIndex_8e157 : m_l n_J3_checkIndex_8e157 = 3 := by decide +kernel
theorem mr_J3_checkIndex_8e157 : m_r n_J3_checkIndex_8e157 = some .int := by decide +kernel
theorem mh_J3_checkIndex_8e157 : m_hh n_J3_checkIndex_8e157 = [] := by decide +kernel
theorem mg_J3_checkIndex_8e157 : (m_gc n_J3_checkIndex_8e157, m_gs n_J3_checkIndex_8e157, m_al n_J3_checkIndex_8e157) = (0, 0, false) := by decide +kernel
theorem ct_J3_checkIndex_8e157 {x0 : Int32} {x1 : Int32} {r2 : Nat} {w : mW} {Q : mW → mO → Prop} (h : RT n_J3_checkIndex_8e157 0 [.int x0, .int x1, .ref r2] [] w (0, 0, false) Q) : CT n_J3_checkIndex_8e157 [.int x0, .int x1, .ref r2] w Q := ct_mk ml_J3_checkIndex_8e157 mg_J3_checkIndex_8e157 rfl (Nat.le_of_ble_eq_true rfl) h
theorem ml_L_pick : m_l n_L_pick = 2 := by decide +kernel
theorem mr_L_pick : m_r n_L_pick = some .int := by decide +kernel
theorem mh_L_pick : m_hh n_L_pick = [] := by decide +kernel
theorem mg_L_pick : (m_gc n_L_pick, m_gs n_L_pick, m_al n_L_pick) = (0, 0, false) := by decide +kernel
theorem ct_L_pick {r0 : Nat} {x1 : Int32} {w : mW} {Q : mW → mO → Prop} (h : RT n_L_pick 0 [.ref r0, .int x1] [] w (0, 0, false) Q) : CT n_L_pick [.ref r0, .int x1] w Q := ct_mk ml_L_pick mg_L_pick rfl (Nat.le_of_ble_eq_true rfl) h
theorem ml_L_four : m_l n_L_four = 4 := by decide +kernel
theorem mr_L_four : m_r n_L_four = some .int := by decide +kernel
theorem mh_L_four : m_hh n_L_four = [] := by decide +kernel
theorem mg_L_four : (m_gc n_L_four, m_gs n_L_four, m_al n_L_four) = (0, 0, false) := by decide +kernel
theorem ct_L_four {r0 : Nat} {x1 : Int32} {w : mW} {Q : mW → mO → Prop} (h : RT n_L_four 0 [.ref r0, .int x1, .null, .null] [] w (0, 0, false) Q) : CT n_L_four [.ref r0, .int x1] w Q := ct_mk ml_L_four mg_L_four rfl (Nat.le_of_ble_eq_true rfl) h
theorem ml_L_sends : m_l n_L_sends = 3 := by decide +kernel
theorem mr_L_sends : m_r n_L_sends = some .boolean := by decide +kernel
theorem mh_L_sends : m_hh n_L_sends = [] := by decide +kernel
theorem mg_L_sends : (m_gc n_L_sends, m_gs n_L_sends, m_al n_L_sends) = (101, 606, false) := by decide +kernel
theorem ct_L_sends {r0 : Nat} {r1 : Nat} {w : mW} {Q : mW → mO → Prop} (h : RT n_L_sends 0 [.ref r0, .ref r1, .null] [] w (101, 606, false) Q) : CT n_L_sends [.ref r0, .ref r1] w Q := ct_mk ml_L_sends mg_L_sends rfl (Nat.le_of_ble_eq_true rfl) h
theorem ml_L_type : m_l n_L_type = 4 := by decide +kernel
theorem mr_L_type : m_r n_L_type = some .boolean := by decide +kernel
theorem mh_L_type : m_hh n_L_type = [] := by decide +kernel
theorem mg_L_type : (m_gc n_L_type, m_gs n_L_type, m_al n_L_type) = (102, 1606, false) := by decide +kernel
theorem ct_L_type {r0 : Nat} {r1 : Nat} {w : mW} {Q : mW → mO → Prop} (h : RT n_L_type 0 [.ref r0, .ref r1, .null, .null] [] w (102, 1606, false) Q) : CT n_L_type [.ref r0, .ref r1] w Q := ct_mk ml_L_type mg_L_type rfl (Nat.le_of_ble_eq_true rfl) h
theorem ml_L_ten : m_l n_L_ten = 4 := by decide +kernel
theorem mr_L_ten : m_r n_L_ten = some .long := by decide +kernel
theorem mh_L_ten : m_hh n_L_ten = [] := by decide +kernel
theorem mg_L_ten : (m_gc n_L_ten, m_gs n_L_ten, m_al n_L_ten) = (0, 0, false) := by decide +kernel
theorem ct_L_ten {x0 : Int32} {w : mW} {Q : mW → mO → Prop} (h : RT n_L_ten 0 [.int x0, .null, .null, .null] [] w (0, 0, false) Q) : CT n_L_ten [.int x0] w Q := ct_mk ml_L_ten mg_L_ten rfl (Nat.le_of_ble_eq_true rfl) h
theorem ml_L_within : m_l n_L_within = 4 := by decide +kernel
theorem mr_L_within : m_r n_L_within = some .long := by decide +kernel
theorem mh_L_within : m_hh n_L_within = [] := by decide +kernel
theorem mg_L_within : (m_gc n_L_within, m_gs n_L_within, m_al n_L_within) = (0, 0, false) := by decide +kernel
theorem ct_L_within {x0 : Int64} {x1 : Int64} {w : mW} {Q : mW → mO → Prop} (h : RT n_L_within 0 [.long x0, .null, .long x1, .null] [] w (0, 0, false) Q) : CT n_L_within [.long x0, .long x1] w Q := ct_mk ml_L_within mg_L_within rfl (Nat.le_of_ble_eq_true rfl) h
theorem ml_L_isLike : m_l n_L_isLike = 5 := by decide +kernel
theorem mr_L_isLike : m_r n_L_isLike = some .boolean := by decide +kernel
theorem mh_L_isLike : m_hh n_L_isLike = [] := by decide +kernel
theorem mg_L_isLike : (m_gc n_L_isLike, m_gs n_L_isLike, m_al n_L_isLike) = (220, 1321, false) := by decide +kernel
theorem ct_L_isLike {r0 : Nat} {r1 : Nat} {w : mW} {Q : mW → mO → Prop} (h : RT n_L_isLike 0 [.ref r0, .ref r1, .null, .null, .null] [] w (220, 1321, false) Q) : CT n_L_isLike [.ref r0, .ref r1] w Q := ct_mk ml_L_isLike mg_L_isLike rfl (Nat.le_of_ble_eq_true rfl) h
theorem ml_L_setPins : m_l n_L_setPins = 3 := by decide +kernel
theorem mr_L_setPins : m_r n_L_setPins = some .int := by decide +kernel
theorem mh_L_setPins : m_hh n_L_setPins = [(0, 5, 6, 154)] := by decide +kernel
theorem mg_L_setPins : (m_gc n_L_setPins, m_gs n_L_setPins, m_al n_L_setPins) = (2, 12, false) := by decide +kernel
theorem ct_L_setPins {r0 : Nat} {x1 : Int32} {w : mW} {Q : mW → mO → Prop} (h : RT n_L_setPins 0 [.ref r0, .int x1, .null] [] w (2, 12, false) Q) : CT n_L_setPins [.ref r0, .int x1] w Q := ct_mk ml_L_setPins mg_L_setPins rfl (Nat.le_of_ble_eq_true rfl) h
theorem ml_L_setPin : m_l n_L_setPin = 4 := by decide +kernel
theorem mr_L_setPin : m_r n_L_setPin = some .int := by decide +kernel
theorem mh_L_setPin : m_hh n_L_setPin = [(0, 6, 7, 154)] := by decide +kernel
theorem mg_L_setPin : (m_gc n_L_setPin, m_gs n_L_setPin, m_al n_L_setPin) = (3, 18, false) := by decide +kernel
theorem ct_L_setPin {r0 : Nat} {x1 : Int32} {x2 : Int32} {w : mW} {Q : mW → mO → Prop} (h : RT n_L_setPin 0 [.ref r0, .int x1, .int x2, .null] [] w (3, 18, false) Q) : CT n_L_setPin [.ref r0, .int x1, .int x2] w Q := ct_mk ml_L_setPin mg_L_setPin rfl (Nat.le_of_ble_eq_true rfl) h
theorem ml_L_turn : m_l n_L_turn = 3 := by decide +kernel
theorem mr_L_turn : m_r n_L_turn = some .int := by decide +kernel
theorem mh_L_turn : m_hh n_L_turn = [(0, 5, 6, 154)] := by decide +kernel
theorem mg_L_turn : (m_gc n_L_turn, m_gs n_L_turn, m_al n_L_turn) = (2, 12, false) := by decide +kernel
theorem ct_L_turn {r0 : Nat} {x1 : Int32} {w : mW} {Q : mW → mO → Prop} (h : RT n_L_turn 0 [.ref r0, .int x1, .null] [] w (2, 12, false) Q) : CT n_L_turn [.ref r0, .int x1] w Q := ct_mk ml_L_turn mg_L_turn rfl (Nat.le_of_ble_eq_true rfl) h
theorem ml_L_shift : m_l n_L_shift = 3 := by decide +kernel
theorem mr_L_shift : m_r n_L_shift = some .int := by decide +kernel
theorem mh_L_shift : m_hh n_L_shift = [(0, 5, 6, 154)] := by decide +kernel
theorem mg_L_shift : (m_gc n_L_shift, m_gs n_L_shift, m_al n_L_shift) = (2, 12, false) := by decide +kernel
theorem ct_L_shift {r0 : Nat} {x1 : Int32} {w : mW} {Q : mW → mO → Prop} (h : RT n_L_shift 0 [.ref r0, .int x1, .null] [] w (2, 12, false) Q) : CT n_L_shift [.ref r0, .int x1] w Q := ct_mk ml_L_shift mg_L_shift rfl (Nat.le_of_ble_eq_true rfl) h
theorem ml_L_clear : m_l n_L_clear = 3 := by decide +kernel
theorem mr_L_clear : m_r n_L_clear = some .int := by decide +kernel
theorem mh_L_clear : m_hh n_L_clear = [(0, 5, 6, 154)] := by decide +kernel
theorem mg_L_clear : (m_gc n_L_clear, m_gs n_L_clear, m_al n_L_clear) = (2, 12, false) := by decide +kernel
theorem ct_L_clear {r0 : Nat} {x1 : Int32} {w : mW} {Q : mW → mO → Prop} (h : RT n_L_clear 0 [.ref r0, .int x1, .null] [] w (2, 12, false) Q) : CT n_L_clear [.ref r0, .int x1] w Q := ct_mk ml_L_clear mg_L_clear rfl (Nat.le_of_ble_eq_true rfl) h
theorem ml_L_multiply : m_l n_L_multiply = 4 := by decide +kernel
theorem mr_L_multiply : m_r n_L_multiply = some .int := by decide +kernel
theorem mh_L_multiply : m_hh n_L_multiply = [(0, 6, 7, 154)] := by decide +kernel
theorem mg_L_multiply : (m_gc n_L_multiply, m_gs n_L_multiply, m_al n_L_multiply) = (3, 18, false) := by decide +kernel
theorem ct_L_multiply {r0 : Nat} {x1 : Int32} {x2 : Int32} {w : mW} {Q : mW → mO → Prop} (h : RT n_L_multiply 0 [.ref r0, .int x1, .int x2, .null] [] w (3, 18, false) Q) : CT n_L_multiply [.ref r0, .int x1, .int x2] w Q := ct_mk ml_L_multiply mg_L_multiply rfl (Nat.le_of_ble_eq_true rfl) h
theorem ml_L_divide : m_l n_L_divide = 2 := by decide +kernel
theorem mr_L_divide : m_r n_L_divide = some .int := by decide +kernel
theorem mh_L_divide : m_hh n_L_divide = [(0, 4, 5, 154)] := by decide +kernel
theorem mg_L_divide : (m_gc n_L_divide, m_gs n_L_divide, m_al n_L_divide) = (2, 12, false) := by decide +kernel
theorem ct_L_divide {r0 : Nat} {w : mW} {Q : mW → mO → Prop} (h : RT n_L_divide 0 [.ref r0, .null] [] w (2, 12, false) Q) : CT n_L_divide [.ref r0] w Q := ct_mk ml_L_divide mg_L_divide rfl (Nat.le_of_ble_eq_true rfl) h
theorem ml_L_transfer : m_l n_L_transfer = 2 := by decide +kernel
theorem mr_L_transfer : m_r n_L_transfer = some .int := by decide +kernel
theorem mh_L_transfer : m_hh n_L_transfer = [(0, 4, 5, 154)] := by decide +kernel
theorem mg_L_transfer : (m_gc n_L_transfer, m_gs n_L_transfer, m_al n_L_transfer) = (1, 6, false) := by decide +kernel
theorem ct_L_transfer {r0 : Nat} {w : mW} {Q : mW → mO → Prop} (h : RT n_L_transfer 0 [.ref r0, .null] [] w (1, 6, false) Q) : CT n_L_transfer [.ref r0] w Q := ct_mk ml_L_transfer mg_L_transfer rfl (Nat.le_of_ble_eq_true rfl) h
theorem ml_L_crankBack : m_l n_L_crankBack = 2 := by decide +kernel
theorem mr_L_crankBack : m_r n_L_crankBack = some .int := by decide +kernel
theorem mh_L_crankBack : m_hh n_L_crankBack = [(0, 4, 5, 154)] := by decide +kernel
theorem mg_L_crankBack : (m_gc n_L_crankBack, m_gs n_L_crankBack, m_al n_L_crankBack) = (1, 6, false) := by decide +kernel
theorem ct_L_crankBack {r0 : Nat} {w : mW} {Q : mW → mO → Prop} (h : RT n_L_crankBack 0 [.ref r0, .null] [] w (1, 6, false) Q) : CT n_L_crankBack [.ref r0] w Q := ct_mk ml_L_crankBack mg_L_crankBack rfl (Nat.le_of_ble_eq_true rfl) h
theorem ml_L_free : m_l n_L_free = 2 := by decide +kernel
theorem mr_L_free : m_r n_L_free = some .int := by decide +kernel
theorem mh_L_free : m_hh n_L_free = [(0, 4, 5, 154)] := by decide +kernel
theorem mg_L_free : (m_gc n_L_free, m_gs n_L_free, m_al n_L_free) = (1, 6, false) := by decide +kernel
theorem ct_L_free {r0 : Nat} {w : mW} {Q : mW → mO → Prop} (h : RT n_L_free 0 [.ref r0, .null] [] w (1, 6, false) Q) : CT n_L_free [.ref r0] w Q := ct_mk ml_L_free mg_L_free rfl (Nat.le_of_ble_eq_true rfl) h
theorem ml_L_damage : m_l n_L_damage = 4 := by decide +kernel
theorem mr_L_damage : m_r n_L_damage = some .int := by decide +kernel
theorem mh_L_damage : m_hh n_L_damage = [(0, 6, 7, 154)] := by decide +kernel
theorem mg_L_damage : (m_gc n_L_damage, m_gs n_L_damage, m_al n_L_damage) = (3, 18, false) := by decide +kernel
theorem ct_L_damage {r0 : Nat} {x1 : Int32} {x2 : Int32} {w : mW} {Q : mW → mO → Prop} (h : RT n_L_damage 0 [.ref r0, .int x1, .int x2, .null] [] w (3, 18, false) Q) : CT n_L_damage [.ref r0, .int x1, .int x2] w Q := ct_mk ml_L_damage mg_L_damage rfl (Nat.le_of_ble_eq_true rfl) h
theorem ml_L_repair : m_l n_L_repair = 3 := by decide +kernel
theorem mr_L_repair : m_r n_L_repair = some .int := by decide +kernel
theorem mh_L_repair : m_hh n_L_repair = [(0, 5, 6, 154)] := by decide +kernel
theorem mg_L_repair : (m_gc n_L_repair, m_gs n_L_repair, m_al n_L_repair) = (2, 12, false) := by decide +kernel
theorem ct_L_repair {r0 : Nat} {x1 : Int32} {w : mW} {Q : mW → mO → Prop} (h : RT n_L_repair 0 [.ref r0, .int x1, .null] [] w (2, 12, false) Q) : CT n_L_repair [.ref r0, .int x1] w Q := ct_mk ml_L_repair mg_L_repair rfl (Nat.le_of_ble_eq_true rfl) h
theorem ml_L_alike : m_l n_L_alike = 2 := by decide +kernel
theorem mr_L_alike : m_r n_L_alike = some .int := by decide +kernel
theorem mh_L_alike : m_hh n_L_alike = [] := by decide +kernel
theorem mg_L_alike : (m_gc n_L_alike, m_gs n_L_alike, m_al n_L_alike) = (0, 0, false) := by decide +kernel
theorem ct_L_alike {x0 : Int32} {x1 : Int32} {w : mW} {Q : mW → mO → Prop} (h : RT n_L_alike 0 [.int x0, .int x1] [] w (0, 0, false) Q) : CT n_L_alike [.int x0, .int x1] w Q := ct_mk ml_L_alike mg_L_alike rfl (Nat.le_of_ble_eq_true rfl) h
theorem ml_L_acts : m_l n_L_acts = 11 := by decide +kernel
theorem mr_L_acts : m_r n_L_acts = some .int := by decide +kernel
theorem mh_L_acts : m_hh n_L_acts = [] := by decide +kernel
theorem mg_L_acts : (m_gc n_L_acts, m_gs n_L_acts, m_al n_L_acts) = (1338, 15389, false) := by decide +kernel
theorem ct_L_acts {r0 : Nat} {r1 : Nat} {w : mW} {Q : mW → mO → Prop} (h : RT n_L_acts 0 [.ref r0, .ref r1, .null, .null, .null, .null, .null, .null, .null, .null, .null] [] w (1338, 15389, false) Q) : CT n_L_acts [.ref r0, .ref r1] w Q := ct_mk ml_L_acts mg_L_acts rfl (Nat.le_of_ble_eq_true rfl) h
theorem ml_L_asks : m_l n_L_asks = 13 := by decide +kernel
theorem mr_L_asks : m_r n_L_asks = some .boolean := by decide +kernel
theorem mh_L_asks : m_hh n_L_asks = [] := by decide +kernel
theorem mg_L_asks : (m_gc n_L_asks, m_gs n_L_asks, m_al n_L_asks) = (324, 3870, false) := by decide +kernel
theorem ct_L_asks {r0 : Nat} {r1 : Nat} {w : mW} {Q : mW → mO → Prop} (h : RT n_L_asks 0 [.ref r0, .ref r1, .null, .null, .null, .null, .null, .null, .null, .null, .null, .null, .null] [] w (324, 3870, false) Q) : CT n_L_asks [.ref r0, .ref r1] w Q := ct_mk ml_L_asks mg_L_asks rfl (Nat.le_of_ble_eq_true rfl) h
theorem ml_L_looks : m_l n_L_looks = 11 := by decide +kernel
theorem mr_L_looks : m_r n_L_looks = some .boolean := by decide +kernel
theorem mh_L_looks : m_hh n_L_looks = [] := by decide +kernel
theorem mg_L_looks : (m_gc n_L_looks, m_gs n_L_looks, m_al n_L_looks) = (112, 60320, false) := by decide +kernel
theorem ct_L_looks {r0 : Nat} {r1 : Nat} {w : mW} {Q : mW → mO → Prop} (h : RT n_L_looks 0 [.ref r0, .ref r1, .null, .null, .null, .null, .null, .null, .null, .null, .null] [] w (112, 60320, false) Q) : CT n_L_looks [.ref r0, .ref r1] w Q := ct_mk ml_L_looks mg_L_looks rfl (Nat.le_of_ble_eq_true rfl) h
theorem ml_L_sound : m_l n_L_sound = 5 := by decide +kernel
theorem mr_L_sound : m_r n_L_sound = some .boolean := by decide +kernel
theorem mh_L_sound : m_hh n_L_sound = [] := by decide +kernel
theorem mg_L_sound : (m_gc n_L_sound, m_gs n_L_sound, m_al n_L_sound) = (247, 123855, false) := by decide +kernel
theorem ct_L_sound {r0 : Nat} {x1 : Int32} {w : mW} {Q : mW → mO → Prop} (h : RT n_L_sound 0 [.ref r0, .int x1, .null, .null, .null] [] w (247, 123855, false) Q) : CT n_L_sound [.ref r0, .int x1] w Q := ct_mk ml_L_sound mg_L_sound rfl (Nat.le_of_ble_eq_true rfl) h
theorem ml_L_law : m_l n_L_law = 5 := by decide +kernel
theorem mr_L_law : m_r n_L_law = some .boolean := by decide +kernel
theorem mh_L_law : m_hh n_L_law = [] := by decide +kernel
theorem mg_L_law : (m_gc n_L_law, m_gs n_L_law, m_al n_L_law) = (600086, 7301442, false) := by decide +kernel
