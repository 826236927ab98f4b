theorem jMt_ok_4 : ((((jMt.drop 80).take 20).zip ((jMp.drop 80).take 20)).all (fun q => jRok q.1 q.2)) = true := by decide +kernel
